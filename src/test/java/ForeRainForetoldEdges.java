/** What is foretold (promises 14 to 21), at the edges; and that foretelling changes nothing. */
public final class ForeRainForetoldEdges {
    private static final int BAD = -1, STATE = -2, NONE = -9;
    private static final int BASKET = 9;

    public static void main(String[] args) {
        nothingIsChanged();
        beyondStep99();
        whenDryFirst();
        dampEnough();
        whereAllAreOff();
        whereByRoom();
        whereOfSeveral();
        whereBehindSoManySteps();
        orderOfTakingIn();
        orderOfSeveral();
        oddsAsFractions();
        oddsOf18Steps();
        oddsWithoutHope();
        roomForMore();
        pegsOfEach();
        pegsAreShared();
        coinsOfEach();
        coinsBehindSteps();
        Due.end();
    }

    private static ForeRain hung(String piece, int wind, String sky) {
        ForeRain x = Probe.told("piece " + piece + ";spot 9 " + wind + ";" + sky);
        x.hang(0, 0);
        return x;
    }

    /** WATER of 100, one more than a text can tell. */
    private static ForeRain with100(int wind) {
        ForeRain x = hung("50 9 1", wind, "rain 9 1;");
        x.go(1);
        return x;
    }

    private static ForeRain inTheMiddle() {
        ForeRain x = Probe.told("piece 90 2 3;piece 30 1 1;piece 60 4 2;piece 1 9 1;"
            + "spot 3 7;spot 9 2;spot 4 0;sun 6 2;sun 1 3;rain 2 1;sun 9 9;");
        x.hang(0, 0);
        x.rack(1);
        x.hang(2, 2);
        x.go(2);
        x.keep(0);
        x.go(1);
        x.keep(1);
        x.go(1);
        x.held(1, 0, 1);
        x.mark(4, 2);
        Probe.type(x, "piece 5 5 2;sun");
        return x;
    }

    private static void foretold(String name, Probe.Call call) {
        Probe.unchanged(name, ForeRainForetoldEdges::inTheMiddle, call, call.of(inTheMiddle()));
    }

    private static void nothingIsChanged() {
        Due.by("(From NOW, all as it is, nothing is changed; beyond STEP 99, too.)");
        for (int i = 0; i <= 3; i++) {
            int of = i;
            foretold("when(" + i + ")", x -> x.when(of));
            foretold("damp(" + i + ", 3, 9, 0)", x -> x.damp(of, 3, 9, 0));
            foretold("damp(" + i + ", 3, 9, 1)", x -> x.damp(of, 3, 9, 1));
            foretold("where(24, " + i + ")", x -> x.where(24, of));
            foretold("order(9, " + i + ")", x -> x.order(9, of));
            foretold("roomFor(" + (i + 1) + ")", x -> x.roomFor(of + 1));
        }
        foretold("where(24, -1)", x -> x.where(24, -1));
        foretold("order(9, -1)", x -> x.order(9, -1));
        foretold("odds(1, 2, 0)", x -> x.odds(1, 2, 0));
        foretold("odds(0, 1, 1)", x -> x.odds(0, 1, 1));
        foretold("pegs()", ForeRain::pegs);
        foretold("coins(24)", x -> x.coins(24));
    }

    private static void beyondStep99() {
        Due.by("beyond STEP 99, too");
        ForeRain x = Probe.told("piece 99 1 1;piece 18 1 1;piece 44 1 1;spot 1 1;spot 1 0;sun 9 24;");
        x.go(99);
        x.hang(1, 0);
        x.rack(0);
        Due.is("when(0)", x.when(0), 99);
        Due.is("when(1)", x.when(1), 18);
        Due.is("damp(0, 1, 1, 1)", x.damp(0, 1, 1, 1), 98);
        Due.is("where(24, -1): 24 less", x.where(24, -1), 161 - 24);
        Due.is("where(24, 0)", x.where(24, 0), BASKET);
        Due.is("where(24, 2)", x.where(24, 2), 0);
        Due.is("order(9, -1)", x.order(9, -1), 161);
        Due.is("odds(1, 2, 1)", x.odds(1, 2, 1), 1 << 18);
        Due.is("roomFor(2)", x.roomFor(2), 18);
        Due.is("coins(19): 80, 0, 44", x.coins(19), 4 + 3);
        Due.is("coins(18): 81, 0, 44", x.coins(18), 5 + 3);
        Due.is("now(0)", x.now(0), 99);
    }

    private static void whenDryFirst() {
        Due.by("WHEN: behind how many STEPS (0 .. 99) a PIECE is DRY first; NONE.");
        ForeRain x = Probe.told("piece 99 1 1;piece 1 1 1;piece 5 1 1;spot 1 1;");
        x.hang(0, 0);
        x.rack(1);
        Due.is("when(0): 99", x.when(0), 99);
        Due.is("when(1): 1", x.when(1), 1);
        Due.is("when(2): in THE BASKET", x.when(2), NONE);
        x.go(1);
        Due.is("when(0): 98", x.when(0), 98);
        Due.is("when(1): DRY NOW", x.when(1), 0);
        x.basket(1);
        Due.is("when(1): DRY NOW, in THE BASKET", x.when(1), 0);
        ForeRain y = with100(1);
        Due.is("piece(0, 0)", y.piece(0, 0), 100);
        Due.is("when(0): 100", y.when(0), NONE);
        y.rack(0);
        Due.is("when(0): 100 on THE RACK", y.when(0), NONE);
        y.go(1);
        Due.is("when(0): 99 on THE RACK", y.when(0), 99);
        ForeRain again = hung("3 1 1", 2, "sun 1 1;rain 1 2;");
        Due.is("when(0): DRY first, wet again later", again.when(0), 1);
        again.go(2);
        Due.is("when(0): wet again", again.when(0), 2);
        ForeRain dry = hung("3 1 1", 3, "sun 0 1;rain 1 20;");
        dry.go(1);
        Due.is("when(0): DRY NOW, RAIN to come", dry.when(0), 0);
    }

    private static void dampEnough() {
        Due.by("DAMP ENOUGH a .. b (0 .. 99): behind how many STEPS first, last (0 .. 99) its WATER is from a to b; NONE.");
        // 20 15 10 5 8 11 14 17 16 15 ..
        ForeRain x = hung("20 1 1", 1, "sun 4 3;rain 3 4;");
        Due.is("damp(0, 20, 20, 0): NOW", x.damp(0, 20, 20, 0), 0);
        Due.is("damp(0, 20, 20, 1): NOW", x.damp(0, 20, 20, 1), 0);
        Due.is("damp(0, 21, 99, 0)", x.damp(0, 21, 99, 0), NONE);
        Due.is("damp(0, 18, 19, 1)", x.damp(0, 18, 19, 1), NONE);
        Due.is("damp(0, 15, 17, 0)", x.damp(0, 15, 17, 0), 1);
        Due.is("damp(0, 15, 17, 1)", x.damp(0, 15, 17, 1), 9);
        Due.is("damp(0, 16, 17, 0)", x.damp(0, 16, 17, 0), 7);
        Due.is("damp(0, 14, 15, 0)", x.damp(0, 14, 15, 0), 1);
        Due.is("damp(0, 14, 14, 0)", x.damp(0, 14, 14, 0), 6);
        Due.is("damp(0, 14, 14, 1)", x.damp(0, 14, 14, 1), 10);
        Due.is("damp(0, 0, 0, 0)", x.damp(0, 0, 0, 0), 24);
        Due.is("damp(0, 0, 0, 1)", x.damp(0, 0, 0, 1), 99);
        Due.is("damp(0, 0, 99, 0)", x.damp(0, 0, 99, 0), 0);
        Due.is("damp(0, 0, 99, 1)", x.damp(0, 0, 99, 1), 99);
        ForeRain y = with100(0);
        y.rack(0);
        Due.is("damp(0, 99, 99, 0) of 100", y.damp(0, 99, 99, 0), 1);
        Due.is("damp(0, 0, 99, 0) of 100", y.damp(0, 0, 99, 0), 1);
        Due.is("damp(0, 1, 1, 0) of 100", y.damp(0, 1, 1, 0), 99);
        Due.is("damp(0, 1, 1, 1) of 100", y.damp(0, 1, 1, 1), 99);
        Due.is("damp(0, 0, 0, 0) of 100", y.damp(0, 0, 0, 0), NONE);
        Due.is("damp(0, 0, 0, 1) of 100", y.damp(0, 0, 0, 1), NONE);
        y.basket(0);
        Due.is("damp(0, 0, 99, 0) of 100 in THE BASKET", y.damp(0, 0, 99, 0), NONE);
        Due.is("damp(0, 0, 99, 1) of 100 in THE BASKET", y.damp(0, 0, 99, 1), NONE);
        Due.is("damp(0, 5, 4, 0)", y.damp(0, 5, 4, 0), BAD);
    }

    private static void whereAllAreOff() {
        Due.by("all PIECES off, each is HUNG at a SPOT (as ROOM is; the others go into THE BASKET)");
        ForeRain rack = Probe.told("piece 5 1 1;");
        rack.rack(0);
        Due.is("where(3, -1): no SPOT, and off THE RACK", rack.where(3, -1), 5);
        Due.is("where(3, 0)", rack.where(3, 0), BASKET);
        ForeRain swap = Probe.told("piece 30 1 1;piece 30 1 3;spot 1 9;spot 1 1;");
        swap.hang(0, 0);
        swap.hang(1, 1);
        Due.is("where(1, -1): 1 and 27 less", swap.where(1, -1), 32);
        Due.is("where(1, 0)", swap.where(1, 0), 1);
        Due.is("where(1, 1)", swap.where(1, 1), 0);
        ForeRain other = Probe.told("piece 36 6 2;piece 27 7 3;spot 8 8;");
        other.hang(1, 0);
        Due.is("where(2, -1): 16 and 14 less, not 24 and 3", other.where(2, -1), 63 - 30);
        Due.is("where(2, 0): what hangs NOW does not damp the air", other.where(2, 0), 0);
        Due.is("where(2, 1)", other.where(2, 1), BASKET);
        ForeRain six = Probe.told("piece 9 1 1;piece 9 1 1;piece 9 1 1;piece 9 1 1;piece 9 1 1;piece 9 1 2;"
            + "spot 1 3;".repeat(5));
        Due.is("where(1, -1): six for five", six.where(1, -1), 54 - 18);
        Due.is("where(1, 0)", six.where(1, 0), BASKET);
        for (int i = 1; i <= 5; i++) {
            Due.is("where(1, " + i + ")", six.where(1, i), i - 1);
        }
        Due.is("where(1, 6)", six.where(1, 6), BAD);
        // an object that was asked for far more WATER ahead
        ForeRain fewer = Probe.told("piece 99 1 1;".repeat(6) + "spot 1 0;".repeat(5));
        for (int pieces = 6; pieces >= 1; pieces--) {
            Due.is("where(1, -1) of 99 each", fewer.where(1, -1), 99 * fewer.count(0));
            Probe.tell(fewer, "piece 9 1 1;".repeat(pieces) + "spot 1 3;");
            Due.is("where(1, -1) of " + pieces, fewer.where(1, -1), 9 * pieces - 3);
            Due.is("where(1, " + (pieces - 1) + ")", fewer.where(1, pieces - 1), 0);
            Probe.tell(fewer, "piece 99 1 1;".repeat(pieces) + "spot 1 0;");
        }
        Due.is("where(1, -1) of one", fewer.where(1, -1), 99);
        Probe.tell(fewer, "piece 9 1 2;piece 9 1 1;spot 1 3;");
        Due.is("where(1, -1) of two: 6 less", fewer.where(1, -1), 12);
        Due.is("where(1, 0)", fewer.where(1, 0), 0);
        ForeRain one = Probe.told("piece 9 1 1;piece 9 1 2;spot 9 3;");
        Due.is("where(1, -1): one at a SPOT", one.where(1, -1), 12);
        Due.is("where(1, 0)", one.where(1, 0), BASKET);
        Due.is("where(1, 1)", one.where(1, 1), 0);
    }

    private static void whereByRoom() {
        Due.by("(as ROOM is; the others go into THE BASKET)");
        ForeRain x = Probe.told("piece 50 4 1;piece 50 5 1;spot 3 9;spot 4 5;");
        Due.is("where(1, -1): 4 WIDE at ROOM 4", x.where(1, -1), 95);
        Due.is("where(1, 0)", x.where(1, 0), 1);
        Due.is("where(1, 1): 5 WIDE fits nowhere", x.where(1, 1), BASKET);
        ForeRain y = Probe.told("piece 50 9 1;spot 9 5;");
        Due.is("where(1, 0): 9 WIDE at ROOM 9", y.where(1, 0), 0);
        ForeRain z = Probe.told("piece 50 9 1;spot 8 5;");
        Due.is("where(1, 0): 9 WIDE at ROOM 8", z.where(1, 0), BASKET);
        Due.is("where(1, -1)", z.where(1, -1), 50);
    }

    private static void whereOfSeveral() {
        Due.by("of several the first by the SPOT of PIECE 0, 1, .. (THE BASKET ahead of SPOT 0)");
        ForeRain still = Probe.told("piece 9 1 1;piece 9 1 1;spot 1 0;spot 1 0;");
        Due.is("where(24, -1): no SUN, no WIND", still.where(24, -1), 18);
        Due.is("where(24, 0)", still.where(24, 0), BASKET);
        Due.is("where(24, 1)", still.where(24, 1), BASKET);
        ForeRain alike = Probe.told("piece 9 1 1;piece 9 1 1;spot 1 2;spot 1 2;");
        Due.is("where(1, 0)", alike.where(1, 0), 0);
        Due.is("where(1, 1)", alike.where(1, 1), 1);
        ForeRain one = Probe.told("piece 9 1 1;piece 9 1 1;spot 1 2;");
        Due.is("where(1, 0): THE BASKET ahead", one.where(1, 0), BASKET);
        Due.is("where(1, 1)", one.where(1, 1), 0);
        ForeRain dry = Probe.told("piece 1 1 1;piece 9 1 1;spot 1 9;spot 1 9;");
        dry.rack(0);
        dry.go(1);
        Due.is("where(1, 0): DRY", dry.where(1, 0), BASKET);
        Due.is("where(1, 1)", dry.where(1, 1), 0);
        ForeRain rain = Probe.told("piece 9 1 1;spot 1 4;sun 0 1;rain 4 1;");
        Due.is("where(2, -1): 4 less, 4 more", rain.where(2, -1), 9);
        Due.is("where(2, 0)", rain.where(2, 0), BASKET);
    }

    private static void whereBehindSoManySteps() {
        Due.by("of all ways that by which, behind n STEPS, WATER of all together is least");
        ForeRain x = Probe.told("piece 26 1 1;spot 1 1;sun 0 23;sun 9 1;");
        Due.is("where(1, -1)", x.where(1, -1), 25);
        Due.is("where(23, -1)", x.where(23, -1), 3);
        Due.is("where(24, -1): WATER at most", x.where(24, -1), 0);
        x.go(1);
        Due.is("where(24, -1) from STEP 1: 22, 4 at most", x.where(24, -1), 0);
        Due.is("where(22, -1) from STEP 1", x.where(22, -1), 4);
        ForeRain late = Probe.told("piece 9 1 1;spot 1 0;sun 0 23;sun 5 1;");
        Due.is("where(23, 0): none yet", late.where(23, 0), BASKET);
        Due.is("where(23, -1)", late.where(23, -1), 9);
        Due.is("where(24, 0): the last counts", late.where(24, 0), 0);
        Due.is("where(24, -1)", late.where(24, -1), 4);
        ForeRain ahead = Probe.told("piece 9 1 1;piece 9 1 1;spot 1 4;spot 1 3;sun 0 1;rain 9 1;");
        Due.is("where(1, -1): RAIN behind it does not count", ahead.where(1, -1), 18 - 7);
        Due.is("where(1, 0)", ahead.where(1, 0), 0);
        Due.is("where(1, 1)", ahead.where(1, 1), 1);
        Due.is("where(2, -1): now it does", ahead.where(2, -1), 18);
        Due.is("where(2, 0)", ahead.where(2, 0), BASKET);
        // the air is damp NOW: 54 was lost, DAMP 6
        ForeRain damp = Probe.told("piece 99 1 3;piece 9 1 1;spot 1 9;spot 1 6;sun 9 1;");
        damp.hang(0, 0);
        damp.go(1);
        Due.is("where(1, -1): 27 less 6, 6 less 6", damp.where(1, -1), 45 + 9 - 21);
        Due.is("where(1, 1)", damp.where(1, 1), BASKET);
        // what one loses keeps another wet
        ForeRain air = Probe.told("piece 99 1 3;piece 50 1 1;spot 1 9;spot 1 5;sun 9 1;");
        Due.is("where(2, -1)", air.where(2, -1), 149 - 54 - 14 - 19);
    }

    private static void orderOfTakingIn() {
        Due.by("ahead of each STEP one is taken, then it rains R on all that still hang");
        ForeRain one = hung("9 9 1", 0, "");
        Due.is("order(9, -1): taken ahead of it", one.order(9, -1), 9);
        Due.is("order(9, 0)", one.order(9, 0), 0);
        Due.is("order(9, 1)", one.order(9, 1), NONE);
        Due.is("order(9, 5)", one.order(9, 5), NONE);
        Due.is("order(9, 6)", one.order(9, 6), BAD);
        ForeRain five = Probe.told("piece 99 1 1;piece 99 2 1;piece 99 3 1;piece 99 4 1;piece 99 5 1;piece 7 9 1;"
            + "spot 9 0;".repeat(5));
        for (int i = 0; i <= 4; i++) {
            five.hang(i, i);
        }
        five.rack(5);
        Due.is("order(1, -1): 4, 3 twice, 2 thrice, 1 four times", five.order(1, -1), 502 + 4 + 6 + 6 + 4);
        for (int k = 0; k <= 4; k++) {
            Due.is("order(1, " + k + ")", five.order(1, k), 4 - k);
        }
        Due.is("order(1, 5)", five.order(1, 5), NONE);
        Due.is("order(9, -1)", five.order(9, -1), 502 + 9 * 20);
        Due.is("order(0, -1)", five.order(0, -1), BAD);
        Due.is("order(10, -1)", five.order(10, -1), BAD);
        ForeRain middle = Probe.told("piece 99 1 1;piece 99 3 1;piece 99 2 1;spot 9 0;spot 9 0;spot 9 0;");
        for (int i = 0; i <= 2; i++) {
            middle.hang(i, i);
        }
        int[] widestFirst = {1, 2, 0};
        Due.is("order(2, -1): 2 times 2, 1 twice times 2", middle.order(2, -1), 297 + 4 + 4);
        for (int k = 0; k <= 2; k++) {
            Due.is("order(2, " + k + "): neither the first way nor the last", middle.order(2, k), widestFirst[k]);
        }
        Due.by("to twice WATER as told at most");
        ForeRain most = Probe.told("piece 5 9 1;piece 99 8 1;piece 99 8 1;spot 9 0;spot 9 0;spot 9 0;");
        for (int i = 0; i <= 2; i++) {
            most.hang(i, i);
        }
        Due.is("order(9, -1): 72, and 5 at most", most.order(9, -1), 203 + 72 + 5);
        Due.is("order(9, 2): the widest last", most.order(9, 2), 0);
    }

    private static void orderOfSeveral() {
        Due.by("the order by which WATER of all together is least; of several the first by numbers");
        ForeRain x = Probe.told("piece 9 3 1;".repeat(5) + "spot 9 0;".repeat(5));
        for (int i = 0; i <= 4; i++) {
            x.hang(i, 4 - i);
        }
        for (int k = 0; k <= 4; k++) {
            Due.is("order(1, " + k + ")", x.order(1, k), k);
        }
        ForeRain full = Probe.told("piece 9 3 1;piece 9 9 1;spot 9 0;spot 9 0;rain 9 1;");
        full.hang(0, 0);
        full.hang(1, 1);
        full.go(1);
        Due.is("order(9, -1): both have twice their WATER", full.order(9, -1), 36);
        Due.is("order(9, 0)", full.order(9, 0), 0);
    }

    private static void oddsAsFractions() {
        Due.by("ODDS: upper (what = 0), lower number (1), in least terms.");
        for (int b = 1; b <= 9; b++) {
            for (int a = 0; a <= b; a++) {
                ForeRain x = hung("2 1 1", 1, "");
                int common = b;
                while ((b - a) % common != 0 || b % common != 0) {
                    common--;
                }
                int upper = (b - a) / common, lower = b / common;
                Due.is("odds(" + a + ", " + b + ", 0)", x.odds(a, b, 0), upper * upper);
                Due.is("odds(" + a + ", " + b + ", 1)", x.odds(a, b, 1), lower * lower);
            }
        }
        Due.by("that all that hang are DRY ahead of it");
        ForeRain dry = hung("2 1 1", 2, "sun 0 1;rain 9 3;");
        Due.is("odds(1, 2, 1): RAIN in the STEP behind", dry.odds(1, 2, 1), 2);
        dry.go(1);
        Due.is("odds(9, 9, 0): DRY NOW", dry.odds(9, 9, 0), 1);
        Due.is("odds(9, 9, 1): DRY NOW", dry.odds(9, 9, 1), 1);
        Due.is("odds(1, 2, 0): DRY NOW", dry.odds(1, 2, 0), 1);
        ForeRain others = Probe.told("piece 1 1 1;piece 3 1 1;piece 99 1 1;piece 99 1 1;spot 1 1;spot 1 1;");
        others.hang(0, 0);
        others.rack(2);
        Due.is("odds(1, 2, 1): only what hangs", others.odds(1, 2, 1), 2);
        others.hang(1, 1);
        Due.is("odds(1, 2, 1): all that hang", others.odds(1, 2, 1), 8);
    }

    private static void oddsOf18Steps() {
        Due.by("(where it is not 0 by 1 as told) more than 18 STEPS are needed");
        for (int water = 17; water <= 19; water++) {
            ForeRain x = hung(water + " 1 1", 1, "");
            Due.is("odds(1, 2, 0): " + water + " STEPS", x.odds(1, 2, 0), water <= 18 ? 1 : STATE);
            Due.is("odds(1, 2, 1): " + water + " STEPS", x.odds(1, 2, 1), water <= 18 ? 1 << water : STATE);
        }
        ForeRain x = hung("18 1 1", 1, "");
        Due.is("odds(8, 9, 0)", x.odds(8, 9, 0), 1);
        Due.is("odds(8, 9, 1)", x.odds(8, 9, 1), 150094635296999121L);
        Due.is("odds(1, 9, 0)", x.odds(1, 9, 0), 18014398509481984L);
        Due.is("odds(1, 9, 1)", x.odds(1, 9, 1), 150094635296999121L);
        Due.is("odds(2, 9, 0)", x.odds(2, 9, 0), 1628413597910449L);
        Due.is("odds(9, 9, 0)", x.odds(9, 9, 0), 0);
        Due.is("odds(9, 9, 1)", x.odds(9, 9, 1), 1);
        Due.is("odds(0, 9, 0)", x.odds(0, 9, 0), 1);
        Due.is("odds(0, 9, 1)", x.odds(0, 9, 1), 1);
    }

    private static void oddsWithoutHope() {
        Due.by("0 by 1, if they are not so behind 99 STEPS, or THE SKY has RAIN in a STEP until then");
        Due.is("odds(1, 2, 0): 99 STEPS", hung("99 1 1", 1, "").odds(1, 2, 0), STATE);
        Due.is("odds(1, 2, 0): 100 STEPS", with100(1).odds(1, 2, 0), 0);
        Due.is("odds(1, 2, 1): 100 STEPS", with100(1).odds(1, 2, 1), 1);
        Due.is("odds(0, 1, 0): never", hung("1 1 1", 0, "").odds(0, 1, 0), 0);
        Due.is("odds(0, 1, 1): never", hung("1 1 1", 0, "").odds(0, 1, 1), 1);
        // 3 STEPS are needed without RAIN: it may be in none of them
        int[] uppers = {0, 0, 0, 8};
        int[] lowers = {1, 1, 1, 27};
        for (int step = 0; step <= 3; step++) {
            String sky = (step > 0 ? "sun 0 " + step + ";" : "") + "rain 1 1;";
            ForeRain x = hung("6 1 1", 2, sky);
            Due.is("odds(1, 3, 0): RAIN in STEP " + step, x.odds(1, 3, 0), uppers[step]);
            Due.is("odds(1, 3, 1): RAIN in STEP " + step, x.odds(1, 3, 1), lowers[step]);
        }
        for (int sun = 0; sun <= 9; sun += 9) {
            // 20 10 1 0: the second STEP begins with DAMP 1
            ForeRain shines = hung("20 1 1", 1, "sun " + sun + " 2;sun 9 1;rain 1 1;");
            Due.is("odds(1, 3, 1): SUN " + sun + " is no RAIN", shines.odds(1, 3, 1), sun == 0 ? 1 : 27);
        }
        ForeRain far = hung("23 1 1", 1, "sun 0 21;rain 1 1;");
        Due.is("odds(1, 3, 0): RAIN in STEP 21, beyond 18", far.odds(1, 3, 0), 0);
        Due.is("odds(1, 3, 1): RAIN in STEP 21, beyond 18", far.odds(1, 3, 1), 1);
        ForeRain gone = hung("9 1 1", 2, "rain 1 1;");
        gone.go(1);
        Due.is("odds(1, 3, 1): RAIN has been", gone.odds(1, 3, 1), 243);
    }

    private static void roomForMore() {
        Due.by("behind how many STEPS first (0 .. 99) k SPOTS have no PIECE or one that is DRY; NONE.");
        for (int spots = 0; spots <= 5; spots++) {
            ForeRain free = Probe.told("spot 1 1;".repeat(spots));
            for (int k = 1; k <= 5; k++) {
                Due.is("roomFor(" + k + ") of " + spots, free.roomFor(k), k <= spots ? 0 : NONE);
            }
        }
        Due.is("roomFor(1): 99", hung("99 1 1", 1, "").roomFor(1), 99);
        Due.is("roomFor(1): 100", with100(1).roomFor(1), NONE);
        ForeRain x = Probe.told("piece 3 1 1;piece 5 1 1;piece 9 1 1;spot 1 1;spot 1 1;spot 1 0;spot 1 0;");
        x.hang(0, 0);
        x.hang(1, 1);
        x.hang(2, 2);
        Due.is("roomFor(1)", x.roomFor(1), 0);
        Due.is("roomFor(2)", x.roomFor(2), 3);
        Due.is("roomFor(3)", x.roomFor(3), 5);
        Due.is("roomFor(4)", x.roomFor(4), NONE);
        x.go(3);
        Due.is("roomFor(2): DRY NOW", x.roomFor(2), 0);
        Due.is("roomFor(3)", x.roomFor(3), 2);
        ForeRain again = hung("3 1 1", 3, "sun 0 1;rain 1 20;");
        Due.is("roomFor(1): first, wet again later", again.roomFor(1), 1);
    }

    private static void pegsOfEach() {
        Due.by("each that hangs needs one, and one more for each 9 of WIDE times WIND (cut)");
        int[] wides = {9, 1, 8, 1, 9, 2, 3, 3, 5, 9, 9};
        int[] winds = {0, 8, 1, 9, 1, 8, 6, 9, 7, 8, 9};
        int[] pegs = {1, 1, 1, 2, 2, 2, 3, 4, 4, 9, 10};
        for (int n = 0; n < wides.length; n++) {
            ForeRain x = hung("9 " + wides[n] + " 1", winds[n], "");
            Due.is("pegs(): " + wides[n] + " times " + winds[n], x.pegs(), pegs[n]);
            x.rack(0);
            Due.is("pegs(): on THE RACK", x.pegs(), 0);
        }
        ForeRain cut = Probe.told("piece 9 1 1;piece 9 1 1;spot 1 5;spot 1 0;spot 1 5;");
        cut.hang(0, 0);
        cut.hang(1, 2);
        Due.is("pegs(): 5 and 5, each is cut", cut.pegs(), 2);
    }

    private static void pegsAreShared() {
        Due.by("(each pair of neighbouring SPOTS that have PIECES: one less)");
        for (int where = 0; where < 32; where++) {
            ForeRain x = Probe.told("piece 9 1 1;".repeat(5) + "spot 1 0;".repeat(5));
            for (int k = 0; k <= 4; k++) {
                if ((where >> k & 1) == 1) {
                    x.hang(4 - k, k);
                }
            }
            int rows = Integer.bitCount(where & ~(where << 1));
            Due.is("pegs() of SPOTS " + Integer.toBinaryString(where), x.pegs(), rows);
        }
    }

    private static void coinsOfEach() {
        Due.by("a coin for each 20 of WATER of a PIECE (begun ones whole)");
        int[] waters = {1, 19, 20, 21, 39, 40, 41, 60, 61, 80, 81, 99};
        int[] coins = {1, 1, 1, 2, 2, 2, 3, 3, 4, 4, 5, 5};
        for (int n = 0; n < waters.length; n++) {
            Due.is("coins(0) of " + waters[n], Probe.told("piece " + waters[n] + " 1 1;").coins(0), coins[n]);
        }
        Due.is("coins(0) of 10 and 10", Probe.told("piece 10 1 1;piece 10 1 1;").coins(0), 2);
        ForeRain most = Probe.told("piece 99 9 1;".repeat(6) + "spot 9 0;".repeat(5) + "rain 9 2;");
        for (int k = 0; k <= 4; k++) {
            most.hang(k, k);
        }
        Due.is("coins(2) of 198 five times and 99", most.coins(2), 55);
    }

    private static void coinsBehindSteps() {
        Due.by("COINS by n (0 .. 24): behind n STEPS all that is not DRY goes into a dryer");
        ForeRain x = Probe.told("piece 24 1 1;");
        x.rack(0);
        int[] steps = {0, 3, 4, 23, 24};
        int[] coins = {2, 2, 1, 1, 0};
        for (int n = 0; n < steps.length; n++) {
            Due.is("coins(" + steps[n] + ")", x.coins(steps[n]), coins[n]);
        }
        Due.is("coins(25)", x.coins(25), BAD);
        Due.is("coins(-1)", x.coins(-1), BAD);
        x.go(1);
        Due.is("coins(22)", x.coins(22), 1);
        Due.is("coins(23)", x.coins(23), 0);
        Due.is("coins(24): DRY", x.coins(24), 0);
    }
}
