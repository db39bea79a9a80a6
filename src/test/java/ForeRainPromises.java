/** Each promise by itself: ordinary inputs, the edges that the document names, wrong inputs. */
public final class ForeRainPromises {
    private static final int BAD = -1, STATE = -2, FULL = -3, NONE = -9, NO = -1000000;
    private static final int RACK = 8, BASKET = 9;
    private static int wrong = 0;
    private static int asked = 0;

    private static void due(int promise, String call, long got, long want) {
        asked++;
        if (got != want) {
            wrong++;
            System.out.println("promise " + promise + ": " + call + " answered " + got + ", due is " + want);
        }
    }

    private static void write(ForeRain x, String text) {
        for (int at = 0; at < text.length(); at++) {
            x.type(text.charAt(at), 1);
        }
    }

    private static int tell(ForeRain x, String text) {
        x.clear();
        write(x, text);
        return x.day();
    }

    private static ForeRain told(String text) {
        ForeRain x = new ForeRain();
        due(4, "day() of " + text, tell(x, text) >= 0 ? 1 : 0, 1);
        return x;
    }

    public static void main(String[] args) {
        aNewObject();
        theText();
        tellsAll();
        faults();
        faultsChangeNothing();
        piecesAndSpots();
        theSky();
        hanging();
        rackAndBasket();
        drying();
        raining();
        ageAndSmell();
        goingToTheEnd();
        nowAndAnew();
        whenDry();
        dampEnough();
        whereToHang();
        orderOfTakingIn();
        oddsOfDry();
        roomForMore();
        pegsAndCoins();
        daysHeld();
        kinds();
        images();
        counts();
        System.out.println(asked + " answers asked for, " + wrong + " wrong");
        if (wrong != 0) {
            System.exit(1);
        }
    }

    private static void aNewObject() {
        ForeRain x = new ForeRain();
        for (int what = 0; what <= 5; what++) {
            due(1, "count(" + what + ")", x.count(what), 0);
            due(1, "now(" + what + ")", x.now(what), 0);
        }
        for (int step = 0; step <= 99; step++) {
            due(1, "sky(" + step + ")", x.sky(step), 0);
        }
        due(1, "trace()", x.trace(), 0);
        due(1, "better()", x.better(), NONE);
        due(1, "back(0)", x.back(0), STATE);
        due(1, "back(1)", x.back(1), STATE);
        due(1, "piece(0, 0)", x.piece(0, 0), BAD);
        due(1, "spot(0, 0)", x.spot(0, 0), BAD);
        ForeRain y = told("piece 9 1 1;spot 1 1;");
        y.hang(0, 0);
        y.mark(0, 0);
        due(1, "trace() of another", x.trace(), 0);
        due(1, "count(0) of another", x.count(0), 0);
    }

    private static void theText() {
        ForeRain x = new ForeRain();
        due(2, "type(v, 0)", x.type(' ', 0), BAD);
        due(2, "type(v, -1)", x.type(' ', -1), BAD);
        due(2, "type(v, 9)", x.type(' ', 9), BAD);
        due(2, "type(v, MIN)", x.type(' ', Integer.MIN_VALUE), BAD);
        due(2, "count(5) behind BAD", x.count(5), 0);
        // "sun", with other bytes above it that are not asked for
        due(2, "type(sun, 3)", x.type(0x41424344_45L << 24 | 0x73756EL, 3), 3);
        due(2, "type( 3 2;)", x.type(0x20332032_3BL, 5), 8);
        due(4, "day()", x.day(), 1);
        due(4, "sky(1)", x.sky(1), 3);
        due(2, "type of eight", x.type(0x7261696E_20372031L, 8), 8);
        due(2, "type(;, 1)", x.type(';', 1), 9);
        due(4, "day()", x.day(), 1);
        due(4, "sky(0)", x.sky(0), -7);
        due(3, "clear() of none", x.clear(), 0);
        for (int n = 1; n <= 36; n++) {
            due(2, "type of eight blanks", x.type(0x2020202020202020L, 8), 8 * n);
        }
        due(2, "type beside 288", x.type(0x20202020202020L, 7), 295);
        due(2, "type six to 295", x.type(0x202020202020L, 6), FULL);
        due(2, "BAD ahead of FULL", x.type(0, 9), BAD);
        due(2, "count(5) behind FULL", x.count(5), 295);
        due(2, "type five to 295", x.type(0x2020202020L, 5), 300);
        due(2, "type one to 300", x.type(' ', 1), FULL);
        due(4, "day() of 300 blanks", x.day(), 0);
        due(4, "count(5) behind day()", x.count(5), 0);
        write(x, "sun");
        due(3, "clear()", x.clear(), 3);
        due(3, "count(5) behind clear()", x.count(5), 0);
        due(3, "day() behind clear()", x.day(), 0);
    }

    private static void tellsAll() {
        ForeRain x = new ForeRain();
        due(4, "day() of one", tell(x, "  piece  99   9 3 ; "), 1);
        due(4, "WATER", x.piece(0, 0), 99);
        due(4, "WIDE", x.piece(0, 1), 9);
        due(4, "CLOTH", x.piece(0, 2), 3);
        due(4, "without blanks", tell(x, "piece1 2 3;spot4 0;sun0 1;rain9 2;"), 4);
        due(4, "sky(0)", x.sky(0), 0);
        due(4, "sky(2)", x.sky(2), -9);
        due(4, "count(2)", x.count(2), 3);
        due(4, "ROOM", x.spot(0, 0), 4);
        due(4, "WIND", x.spot(0, 1), 0);
        due(4, "items in any order", tell(x, "sun 1 2;spot 1 1;rain 2 1;piece 1 1 1;sun 3 21;spot 9 9;"), 6);
        due(4, "count(2) of 24", x.count(2), 24);
        due(4, "sky(2)", x.sky(2), -2);
        due(4, "sky(23)", x.sky(23), 3);
        due(4, "six and five", tell(x, "piece 1 1 1;piece 2 1 1;piece 3 1 1;piece 4 1 1;piece 5 1 1;piece 6 1 1;"
            + "spot 1 0;spot 2 0;spot 3 0;spot 4 0;spot 5 0;"), 11);
        due(4, "count(0)", x.count(0), 6);
        due(4, "count(1)", x.count(1), 5);
        due(4, "piece(5, 0)", x.piece(5, 0), 6);
        due(4, "spot(4, 0)", x.spot(4, 0), 5);
        due(4, "count(2) of none told", x.count(2), 0);
        x.hang(0, 0);
        x.go(7);
        x.keep(0);
        x.keep(1);
        x.held(1, 1, 1);
        x.mark(5, 0);
        due(4, "day() of none", x.day(), 0);
        due(4, "count(0)", x.count(0), 0);
        due(4, "count(1)", x.count(1), 0);
        due(4, "STEP as at first", x.now(0), 0);
        due(4, "back(0): images are gone", x.back(0), STATE);
        due(4, "back(1): images are gone", x.back(1), STATE);
        due(4, "DAYS stay", x.count(4), 1);
        due(4, "THE TRACE stays", x.trace(), 100001);
        tell(x, "piece 5 1 1;spot 1 1;");
        due(4, "in THE BASKET", x.piece(0, 5), BASKET);
        due(4, "AGE 0", x.piece(0, 3), 0);
    }

    private static void fault(String text, int place) {
        ForeRain x = new ForeRain();
        write(x, text);
        due(4, "day() of '" + text + "'", x.day(), -10 - place);
        due(4, "THE TEXT stays of '" + text + "'", x.count(5), text.length());
        due(4, "no PIECES of '" + text + "'", x.count(0) + x.count(1) + x.count(2), 0);
    }

    private static void faults() {
        fault("piece", 5);
        fault("piece   ", 8);
        fault("piece 1", 7);
        fault("piece 1 1 1", 11);
        fault("piece 1 1 1 ", 12);
        fault("pieces 1 1 1;", 0);
        fault(" piec 1 1 1;", 1);
        fault("tiece 1 1 1;", 0);
        fault("run 1 1;", 0);
        fault("Piece 1 1 1;", 0);
        fault("pieceX 1 1 1;", 5);
        fault("piece 0 1 1;", 6);
        fault("piece 100 1 1;", 6);
        fault("piece 4294967297 1 1;", 6);
        fault("piece 99 0 1;", 9);
        fault("piece 99 10 1;", 9);
        fault("piece 99 9 0;", 11);
        fault("piece 99 9 4;", 11);
        fault("piece 99 9 3 1;", 13);
        fault("piece 99 9 ;", 11);
        fault("piece 99 9 piece", 11);
        fault("piece ; 9 1;", 6);
        fault("spot 0 0;", 5);
        fault("spot 10 0;", 5);
        fault("spot 9 10;", 7);
        fault("spot 9 00;", 7);
        fault("spot 09 0;", 5);
        fault("spot 9;", 6);
        fault("sun 10 1;", 4);
        fault("sun 9 0;", 6);
        fault("sun 9 25;", 6);
        fault("sun 9 24;rain 1 1;", 16);
        fault("sun 9 23;rain 1 2;", 16);
        fault("sun 9 24;rain 0 1;", 14);
        fault("rain 0 1;", 5);
        fault("rain 10 1;", 5);
        fault("rain 9 0;", 7);
        fault("rain 9 1,", 8);
        fault(";", 0);
        fault("sun 1 1;;", 8);
        fault("1", 0);
        fault("x", 0);
        fault("sun 1 -1;", 6);
        fault("sun\t1 1;", 3);
        fault((char) 200 + "sun 1 1;", 0);
        fault((char) 0 + "", 0);
        fault("sun 1 1" + (char) 187, 7);
        fault("sun 1 1;{", 8);
        fault("sun 1 1;`", 8);
        fault("sun 1 /;", 6);
        fault("sun 1 :;", 6);
        fault("spot 1 1;spot 1 1;spot 1 1;spot 1 1;spot 1 1;spot x", 45);
        fault("piece 1 1 1;piece 1 1 1;piece 1 1 1;piece 1 1 1;piece 1 1 1;piece 1 1 1; piece", 73);
    }

    private static void faultsChangeNothing() {
        ForeRain x = told("piece 40 2 1;spot 3 4;sun 5 6;");
        x.hang(0, 0);
        x.go(2);
        x.keep(0);
        due(4, "day() with a FAULT", tell(x, "spot 9 9;rain 1 1;piece 1 1 1;x"), -40);
        due(4, "PIECES", x.count(0), 1);
        due(4, "ROOM", x.spot(0, 0), 3);
        due(4, "sky(0)", x.sky(0), 5);
        due(4, "STEP", x.now(0), 2);
        due(4, "WATER", x.piece(0, 0), 40 - 9 - 8);
        due(4, "where it is", x.piece(0, 5), 0);
        due(4, "back(0)", x.back(0), 2);
        due(4, "THE TEXT stays", x.clear(), 31);
    }

    private static void piecesAndSpots() {
        ForeRain x = told("piece 40 2 1;piece 7 9 3;spot 3 4;spot 9 0;");
        due(5, "piece(1, 0)", x.piece(1, 0), 7);
        due(5, "piece(1, 1)", x.piece(1, 1), 9);
        due(5, "piece(1, 2)", x.piece(1, 2), 3);
        due(5, "piece(1, 3)", x.piece(1, 3), 0);
        due(5, "piece(1, 4)", x.piece(1, 4), 0);
        due(5, "piece(1, 5)", x.piece(1, 5), BASKET);
        due(5, "piece(1, 6)", x.piece(1, 6), BAD);
        due(5, "piece(1, -1)", x.piece(1, -1), BAD);
        due(5, "piece(2, 0)", x.piece(2, 0), BAD);
        due(5, "piece(-1, 0)", x.piece(-1, 0), BAD);
        due(5, "piece(MAX, 0)", x.piece(Integer.MAX_VALUE, 0), BAD);
        x.hang(1, 1);
        x.rack(0);
        due(5, "piece(1, 5)", x.piece(1, 5), 1);
        due(5, "piece(0, 5)", x.piece(0, 5), RACK);
        due(6, "spot(0, 0)", x.spot(0, 0), 3);
        due(6, "spot(0, 1)", x.spot(0, 1), 4);
        due(6, "spot(0, 2)", x.spot(0, 2), NONE);
        due(6, "spot(1, 2)", x.spot(1, 2), 1);
        due(6, "spot(1, 3)", x.spot(1, 3), BAD);
        due(6, "spot(1, -1)", x.spot(1, -1), BAD);
        due(6, "spot(2, 0)", x.spot(2, 0), BAD);
        due(6, "spot(8, 2)", x.spot(8, 2), BAD);
        due(6, "spot(-1, 0)", x.spot(-1, 0), BAD);
    }

    private static void theSky() {
        ForeRain x = told("sun 0 1;rain 1 1;sun 9 1;rain 9 1;");
        due(7, "sky(0)", x.sky(0), 0);
        due(7, "sky(1)", x.sky(1), -1);
        due(7, "sky(2)", x.sky(2), 9);
        due(7, "sky(3)", x.sky(3), -9);
        due(7, "sky(4)", x.sky(4), 0);
        due(7, "sky(99)", x.sky(99), 0);
        due(7, "sky(100)", x.sky(100), NO);
        due(7, "sky(-1)", x.sky(-1), NO);
        tell(x, "sun 5 1;");
        due(7, "sky(1) of less told", x.sky(1), 0);
    }

    private static void hanging() {
        ForeRain x = told("piece 40 4 1;piece 40 5 1;spot 4 1;spot 9 1;");
        due(8, "WIDE as ROOM", x.hang(0, 0), 1);
        due(8, "itself is there", x.hang(0, 0), STATE);
        due(8, "another is there", x.hang(1, 0), STATE);
        due(8, "from SPOT to SPOT", x.hang(0, 1), 1);
        due(8, "SPOT 0 is left", x.spot(0, 2), NONE);
        due(8, "no ROOM", x.hang(1, 0), STATE);
        due(8, "stays in THE BASKET", x.piece(1, 5), BASKET);
        due(8, "no such PIECE", x.hang(2, 0), BAD);
        due(8, "no such SPOT", x.hang(0, 2), BAD);
        due(8, "SPOT -1", x.hang(0, -1), BAD);
        due(8, "PIECE -1", x.hang(-1, 0), BAD);
        due(8, "SPOT 9", x.hang(0, 9), BAD);
        x.basket(0);
        due(8, "where it was", x.hang(1, 1), 1);
        x.rack(1);
        due(8, "from THE RACK", x.hang(1, 1), 1);
        due(8, "THE RACK is empty", x.count(3), 0);
    }

    private static void rackAndBasket() {
        ForeRain x = told("piece 9 1 1;piece 9 1 1;piece 9 1 1;piece 9 1 1;spot 1 1;");
        due(9, "rack(0)", x.rack(0), 1);
        due(9, "rack(0) again", x.rack(0), STATE);
        due(9, "rack(1)", x.rack(1), 2);
        x.hang(2, 0);
        due(9, "rack(2) from its SPOT", x.rack(2), 3);
        due(9, "SPOT 0 is left", x.spot(0, 2), NONE);
        due(9, "rack(3): FULL", x.rack(3), FULL);
        due(9, "it stays", x.piece(3, 5), BASKET);
        due(9, "rack(1): STATE ahead of FULL", x.rack(1), STATE);
        due(9, "rack(4)", x.rack(4), BAD);
        due(9, "rack(-1)", x.rack(-1), BAD);
        due(10, "basket(1)", x.basket(1), 1);
        due(10, "basket(1) again", x.basket(1), STATE);
        due(10, "basket(3)", x.basket(3), STATE);
        due(10, "basket(4)", x.basket(4), BAD);
        due(10, "basket(-1)", x.basket(-1), BAD);
        due(10, "where it is", x.piece(1, 5), BASKET);
        due(9, "rack(3) now", x.rack(3), 3);
        x.hang(1, 0);
        due(10, "basket(1) from its SPOT", x.basket(1), 1);
        due(10, "SPOT 0 is left", x.spot(0, 2), NONE);
    }

    private static void drying() {
        ForeRain x = told("piece 90 2 2;piece 99 3 3;piece 3 1 1;piece 50 1 1;spot 9 4;spot 9 2;sun 6 2;sun 0 1;");
        x.hang(0, 0);
        x.hang(1, 1);
        x.rack(2);
        // 20 and 24 are lost; 44 / 8
        due(11, "go(1)", x.go(1), 44);
        due(11, "DAMP", x.now(1), 5);
        due(11, "WATER of 0", x.piece(0, 0), 70);
        due(11, "WATER of 1", x.piece(1, 0), 75);
        due(11, "WATER on THE RACK", x.piece(2, 0), 2);
        due(11, "WATER in THE BASKET", x.piece(3, 0), 50);
        // 15 and 19; 5 / 2 and 34 / 8
        due(11, "go(1)", x.go(1), 34);
        due(11, "DAMP", x.now(1), 6);
        // SUN 0: 8 less 6, 6 less 6; 6 / 2 and 2 / 8
        due(11, "go(1)", x.go(1), 2);
        due(11, "DAMP", x.now(1), 3);
        // behind the steps told: 8 less 3, 6 less 3, then with 3 / 2 and 8 / 8 = 2: 6, 4
        due(11, "go(2)", x.go(2), 18);
        due(11, "DAMP", x.now(1), 2);
        due(11, "on THE RACK none is left", x.piece(2, 0), 0);
        ForeRain y = told("piece 9 1 1;spot 1 0;spot 1 9;sun 5 2;");
        y.hang(0, 0);
        due(11, "go(2) with WATER at most", y.go(2), 9);
        due(11, "WATER", y.piece(0, 0), 0);
        ForeRain z = told("piece 99 1 3;piece 99 1 1;spot 1 9;spot 1 0;sun 9 1;");
        z.hang(0, 0);
        z.hang(1, 1);
        z.go(1);
        due(11, "DAMP 63 / 8", z.now(1), 7);
        due(11, "more DAMP than sun and wind: 20 and none", z.go(1), 20);
        due(11, "WATER as it was", z.piece(1, 0), 90);
    }

    private static void raining() {
        ForeRain x = told("piece 10 3 1;piece 5 2 1;piece 9 9 3;spot 9 9;rain 2 3;sun 9 1;");
        x.hang(0, 0);
        x.rack(1);
        due(11, "go(1) in rain", x.go(1), 0);
        due(11, "R times WIDE more", x.piece(0, 0), 16);
        due(11, "on THE RACK 1 less", x.piece(1, 0), 4);
        due(11, "in THE BASKET as it was", x.piece(2, 0), 9);
        x.go(1);
        due(11, "twice WATER as told at most", x.piece(0, 0), 20);
        x.go(1);
        due(11, "no more", x.piece(0, 0), 20);
        due(11, "go(1) in sun", x.go(1), 18);
        due(11, "DAMP 18 / 8", x.now(1), 2);
        ForeRain y = told("piece 99 1 3;spot 1 9;sun 9 1;rain 1 1;");
        y.hang(0, 0);
        y.go(1);
        due(11, "DAMP 54 / 8", y.now(1), 6);
        y.go(1);
        due(11, "in rain DAMP is halved", y.now(1), 3);
        due(11, "rain on what has dried", y.piece(0, 0), 46);
    }

    private static void ageAndSmell() {
        ForeRain x = told("piece 99 1 1;piece 11 1 1;piece 12 1 1;spot 1 0;");
        x.rack(1);
        x.rack(2);
        x.go(11);
        due(11, "AGE in THE BASKET", x.piece(0, 3), 11);
        due(11, "AGE of a DRY one", x.piece(1, 3), 0);
        due(11, "AGE 11", x.piece(2, 3), 11);
        due(11, "SMELLS at 11", x.now(5), 0);
        x.go(1);
        due(11, "SMELLS at 12", x.piece(0, 4), 1);
        due(11, "DRY at 12", x.piece(2, 4), 0);
        due(12, "how many SMELL", x.now(5), 1);
        due(12, "how many are DRY", x.now(4), 2);
        x.anew();
        due(13, "SMELLS till anew()", x.piece(0, 4), 0);
        ForeRain y = told("piece 13 1 1;spot 1 0;");
        y.rack(0);
        y.go(12);
        due(11, "AGE 12", y.piece(0, 3), 12);
        y.go(1);
        due(11, "AGE of a DRY one", y.piece(0, 3), 0);
        due(11, "it SMELLS all the same", y.piece(0, 4), 1);
        due(12, "how many are DRY: PIECE 0", y.now(4), 1);
        due(12, "how many SMELL: PIECE 0", y.now(5), 1);
    }

    private static void goingToTheEnd() {
        ForeRain x = told("piece 40 1 1;spot 1 1;");
        x.hang(0, 0);
        due(11, "go(0)", x.go(0), BAD);
        due(11, "go(-1)", x.go(-1), BAD);
        due(11, "go(100)", x.go(100), BAD);
        due(11, "STEP", x.now(0), 0);
        due(11, "go(30)", x.go(30), 30);
        due(11, "go(99) to 99", x.go(99), 10);
        due(11, "STEP 99", x.now(0), 99);
        due(11, "go(1) at 99", x.go(1), STATE);
        due(11, "go(0): BAD ahead of STATE", x.go(0), BAD);
        due(13, "anew()", x.anew(), 99);
        due(11, "go(99)", x.go(99), 0);
        due(11, "STEP 99", x.now(0), 99);
    }

    private static void nowAndAnew() {
        ForeRain x = told("piece 40 1 2;piece 7 1 1;piece 1 1 1;spot 1 5;spot 1 0;sun 7 3;");
        x.hang(0, 0);
        x.hang(1, 1);
        x.rack(2);
        due(12, "WATER of all", x.now(2), 48);
        due(12, "how many hang", x.now(3), 2);
        due(12, "how many are DRY", x.now(4), 0);
        x.go(1);
        due(12, "STEP", x.now(0), 1);
        due(12, "DAMP", x.now(1), 3);
        due(12, "WATER of all", x.now(2), 16);
        due(12, "how many are DRY", x.now(4), 2);
        due(12, "now(6)", x.now(6), BAD);
        due(12, "now(-1)", x.now(-1), BAD);
        x.keep(1);
        due(13, "anew()", x.anew(), 1);
        due(13, "STEP", x.now(0), 0);
        due(13, "DAMP", x.now(1), 0);
        due(13, "WATER of all", x.now(2), 48);
        due(13, "how many hang", x.now(3), 0);
        due(13, "THE RACK", x.count(3), 0);
        due(13, "AGE", x.piece(0, 3), 0);
        due(13, "PIECES stay", x.count(0), 3);
        due(13, "an IMAGE stays", x.back(1), 1);
        due(13, "anew() again", x.anew(), 1);
    }

    private static void whenDry() {
        ForeRain x = told("piece 20 1 2;piece 99 1 1;piece 5 1 1;piece 98 9 3;spot 1 2;spot 9 0;sun 3 1;rain 1 1;sun 1 2;");
        x.hang(0, 0);
        x.rack(1);
        // 10; 11; 5; 0 (DAMP 1, 0, 0)
        due(14, "when(0)", x.when(0), 4);
        due(14, "when(1) on THE RACK", x.when(1), 99);
        due(14, "when(2) in THE BASKET", x.when(2), NONE);
        due(14, "when(4)", x.when(4), BAD);
        due(14, "when(-1)", x.when(-1), BAD);
        due(14, "nothing is changed", x.now(0) + x.piece(0, 0), 20);
        x.go(4);
        due(14, "when(0) DRY", x.when(0), 0);
        x.anew();
        x.hang(0, 0);
        x.go(99);
        due(14, "when(0) at 99", x.when(0), 0);
        due(14, "when(1) at 99", x.when(1), NONE);
        x.rack(1);
        due(14, "beyond STEP 99", x.when(1), 99);
        ForeRain y = told("piece 60 9 1;spot 9 0;rain 9 6;");
        y.hang(0, 0);
        y.go(6);
        y.rack(0);
        due(14, "120 on THE RACK", y.when(0), NONE);
    }

    private static void dampEnough() {
        ForeRain x = told("piece 20 1 1;piece 99 1 1;spot 1 1;sun 4 3;rain 3 4;");
        x.hang(0, 0);
        // 20 15 10 5 8 11 14 17 16 15 14 ..
        due(15, "damp(0, 14, 15, 0)", x.damp(0, 14, 15, 0), 1);
        due(15, "damp(0, 14, 15, 1)", x.damp(0, 14, 15, 1), 10);
        due(15, "damp(0, 20, 99, 0)", x.damp(0, 20, 99, 0), 0);
        due(15, "damp(0, 20, 99, 1)", x.damp(0, 20, 99, 1), 0);
        due(15, "damp(0, 18, 19, 0)", x.damp(0, 18, 19, 0), NONE);
        due(15, "damp(0, 18, 19, 1)", x.damp(0, 18, 19, 1), NONE);
        due(15, "damp(0, 0, 0, 0)", x.damp(0, 0, 0, 0), 24);
        due(15, "damp(0, 0, 0, 1)", x.damp(0, 0, 0, 1), 99);
        due(15, "damp(1, 99, 99, 1)", x.damp(1, 99, 99, 1), 99);
        due(15, "b less than a", x.damp(0, 5, 4, 0), BAD);
        due(15, "a below 0", x.damp(0, -1, 4, 0), BAD);
        due(15, "b above 99", x.damp(0, 5, 100, 0), BAD);
        due(15, "a and b above 99", x.damp(0, 100, 100, 0), BAD);
        due(15, "what 2", x.damp(0, 5, 9, 2), BAD);
        due(15, "what -1", x.damp(0, 5, 9, -1), BAD);
        due(15, "no such PIECE", x.damp(2, 5, 9, 0), BAD);
        due(15, "nothing is changed", x.now(0) + x.piece(0, 0), 20);
    }

    private static void whereToHang() {
        ForeRain x = told("piece 30 2 1;piece 30 2 3;spot 2 5;spot 1 9;spot 3 1;sun 1 1;rain 9 1;");
        due(16, "where(1, -1)", x.where(1, -1), 60 - 18 - 2);
        due(16, "where(1, 0)", x.where(1, 0), 2);
        due(16, "where(1, 1)", x.where(1, 1), 0);
        due(16, "where(2, -1): 12 and 30", x.where(2, -1), 60);
        due(16, "where(2, 0): THE BASKET first", x.where(2, 0), 9);
        due(16, "where(0, -1)", x.where(0, -1), BAD);
        due(16, "where(25, -1)", x.where(25, -1), BAD);
        due(16, "where(1, 2)", x.where(1, 2), BAD);
        due(16, "where(1, -2)", x.where(1, -2), BAD);
        x.rack(0);
        x.hang(1, 2);
        due(16, "all are off first", x.where(1, -1), 40);
        due(16, "nothing is changed", x.piece(0, 5) * 10 + x.piece(1, 5), 82);
        ForeRain y = told("piece 9 1 1;piece 9 1 1;spot 1 2;spot 1 2;");
        due(16, "of several the first: where(1, 0)", y.where(1, 0), 0);
        due(16, "of several the first: where(1, 1)", y.where(1, 1), 1);
        due(16, "where(24, -1)", y.where(24, -1), 0);
        y.rack(0);
        y.go(9);
        due(16, "DRY ones stay in THE BASKET", y.where(1, 0), 9);
        due(16, "from WATER as it is", y.where(1, -1), 7);
    }

    private static void orderOfTakingIn() {
        ForeRain x = told("piece 9 2 1;piece 50 3 1;piece 50 3 1;piece 8 1 1;spot 9 1;spot 9 1;spot 9 1;");
        due(17, "nothing hangs", x.order(1, -1), 117);
        due(17, "nothing hangs, k 0", x.order(1, 0), NONE);
        x.hang(0, 2);
        x.hang(1, 1);
        x.hang(2, 0);
        due(17, "order(1, -1)", x.order(1, -1), 117 + 3 + 4);
        due(17, "order(1, 0)", x.order(1, 0), 1);
        due(17, "order(1, 1)", x.order(1, 1), 2);
        due(17, "order(1, 2)", x.order(1, 2), 0);
        due(17, "order(1, 3)", x.order(1, 3), NONE);
        due(17, "order(1, 5)", x.order(1, 5), NONE);
        // PIECE 0 has twice its WATER soon
        due(17, "order(9, -1)", x.order(9, -1), 117 + 27 + 9);
        due(17, "order(9, 2)", x.order(9, 2), 0);
        due(17, "order(1, 6)", x.order(1, 6), BAD);
        due(17, "order(1, -2)", x.order(1, -2), BAD);
        due(17, "order(0, 0)", x.order(0, 0), BAD);
        due(17, "order(10, 0)", x.order(10, 0), BAD);
        due(17, "nothing is changed", x.now(2) * 10 + x.now(3), 1173);
        x.rack(3);
        due(17, "THE RACK does not count", x.order(1, -1), 124);
        ForeRain y = told("piece 9 1 1;piece 9 1 1;spot 1 1;spot 1 1;");
        y.hang(0, 1);
        y.hang(1, 0);
        due(17, "of several the first by numbers", y.order(1, 0), 0);
    }

    private static void oddsOfDry() {
        ForeRain x = told("piece 10 1 1;piece 4 1 1;spot 1 1;spot 1 0;sun 1 19;rain 1 1;");
        due(18, "nothing hangs", x.odds(1, 2, 0), STATE);
        due(18, "BAD ahead of STATE", x.odds(1, 2, 2), BAD);
        x.hang(0, 0);
        due(18, "5 STEPS: upper", x.odds(2, 6, 0), 32);
        due(18, "5 STEPS: lower", x.odds(2, 6, 1), 243);
        due(18, "0 in 9: upper", x.odds(0, 9, 0), 1);
        due(18, "0 in 9: lower", x.odds(0, 9, 1), 1);
        due(18, "4 in 4: upper", x.odds(4, 4, 0), 0);
        due(18, "4 in 4: lower", x.odds(4, 4, 1), 1);
        due(18, "a above b", x.odds(3, 2, 0), BAD);
        due(18, "a below 0", x.odds(-1, 2, 0), BAD);
        due(18, "b 0", x.odds(0, 0, 0), BAD);
        due(18, "b 10", x.odds(1, 10, 0), BAD);
        due(18, "what -1", x.odds(1, 2, -1), BAD);
        due(18, "nothing is changed", x.now(0) + x.piece(0, 0), 10);
        x.hang(1, 1);
        due(18, "all that hang", x.odds(1, 2, 1), 32);
        x.go(5);
        due(18, "DRY now: upper", x.odds(9, 9, 0), 1);
        due(18, "DRY now: lower", x.odds(9, 9, 1), 1);
        ForeRain y = told("piece 18 1 1;piece 19 1 1;piece 99 1 1;spot 1 0;sun 1 19;rain 1 1;");
        y.hang(0, 0);
        due(18, "18 STEPS", y.odds(1, 2, 1), 1L << 18);
        due(18, "18 STEPS of 9", y.odds(1, 9, 1), 150094635296999121L);
        y.basket(0);
        y.hang(1, 0);
        due(18, "19 STEPS", y.odds(1, 2, 0), STATE);
        due(18, "19 STEPS, 0 in 9", y.odds(0, 9, 0), STATE);
        y.basket(1);
        y.hang(2, 0);
        due(18, "rain on the way: upper", y.odds(1, 2, 0), 0);
        due(18, "rain on the way: lower", y.odds(0, 2, 1), 1);
        ForeRain z = told("piece 99 1 1;piece 1 1 1;spot 1 0;spot 1 9;");
        z.hang(0, 0);
        z.hang(1, 1);
        due(18, "never: upper", z.odds(0, 1, 0), 0);
        due(18, "never: lower", z.odds(0, 1, 1), 1);
        ForeRain r = told("piece 2 1 1;spot 1 1;sun 1 1;rain 1 1;");
        r.hang(0, 0);
        due(18, "rain behind it", r.odds(1, 3, 0), 2);
        ForeRain s = told("piece 5 1 1;piece 5 1 1;spot 1 1;spot 1 9;sun 0 2;rain 1 1;");
        s.hang(0, 0);
        due(18, "a little rain on the way: upper", s.odds(1, 3, 0), 0);
        due(18, "a little rain on the way: lower", s.odds(1, 3, 1), 1);
        s.hang(0, 1);
        due(18, "SUN 0 is no rain", s.odds(1, 3, 1), 3);
        ForeRain t = told("piece 99 1 1;spot 1 1;rain 1 1;sun 0 1;");
        t.hang(0, 0);
        t.go(2);
        due(18, "99 STEPS", t.odds(1, 3, 1), STATE);
        t.anew();
        t.hang(0, 0);
        t.go(1);
        due(18, "100 STEPS: upper", t.odds(1, 3, 0), 0);
        due(18, "100 STEPS: lower", t.odds(1, 3, 1), 1);
    }

    private static void roomForMore() {
        ForeRain x = told("piece 10 1 1;piece 99 1 1;spot 1 2;spot 1 0;spot 1 0;");
        x.hang(0, 0);
        x.hang(1, 1);
        due(19, "roomFor(1)", x.roomFor(1), 0);
        due(19, "roomFor(2)", x.roomFor(2), 5);
        due(19, "roomFor(3)", x.roomFor(3), NONE);
        due(19, "roomFor(5)", x.roomFor(5), NONE);
        due(19, "roomFor(0)", x.roomFor(0), BAD);
        due(19, "roomFor(6)", x.roomFor(6), BAD);
        due(19, "roomFor(-1)", x.roomFor(-1), BAD);
        due(19, "nothing is changed", x.now(0) + x.piece(0, 0), 10);
        ForeRain y = told("piece 99 1 1;spot 1 1;");
        y.hang(0, 0);
        due(19, "roomFor(1) at 99", y.roomFor(1), 99);
    }

    private static void pegsAndCoins() {
        ForeRain x = told("piece 20 9 1;piece 21 3 1;piece 99 2 1;spot 9 9;spot 9 3;spot 9 4;spot 9 0;");
        due(20, "pegs() of none", x.pegs(), 0);
        x.hang(0, 0);
        due(20, "1 and 81 / 9", x.pegs(), 10);
        x.hang(1, 1);
        due(20, "1 and 9 / 9, less a shared one", x.pegs(), 11);
        x.hang(2, 2);
        due(20, "1 and 8 / 9, less a shared one", x.pegs(), 11);
        x.hang(1, 3);
        due(20, "a gap, then neighbours", x.pegs(), 11);
        x.hang(2, 1);
        due(20, "neighbours, then a gap", x.pegs(), 11);
        x.anew();
        due(21, "coins(0): 1, 2, 5", x.coins(0), 8);
        x.rack(1);
        due(21, "coins(1): 1, 1, 5", x.coins(1), 7);
        due(21, "coins(20): 1, 1, 5", x.coins(20), 7);
        due(21, "coins(21): 1, 0, 5", x.coins(21), 6);
        due(21, "coins(24)", x.coins(24), 6);
        due(21, "coins(25)", x.coins(25), BAD);
        due(21, "coins(-1)", x.coins(-1), BAD);
        due(21, "nothing is changed", x.now(0) + x.piece(1, 0), 21);
    }

    private static void daysHeld() {
        ForeRain x = new ForeRain();
        due(24, "better() of none", x.better(), NONE);
        due(23, "right(0) of none", x.right(0), 0);
        due(25, "trust(0, 0) of none", x.trust(0, 0), STATE);
        due(22, "held(2, 0, 0)", x.held(2, 0, 0), BAD);
        due(22, "held(0, -1, 0)", x.held(0, -1, 0), BAD);
        due(22, "held(0, 0, 2)", x.held(0, 0, 2), BAD);
        due(22, "held(-1, 0, 0)", x.held(-1, 0, 0), BAD);
        due(22, "held(0, 2, 0)", x.held(0, 2, 0), BAD);
        due(22, "held(0, 0, -1)", x.held(0, 0, -1), BAD);
        due(22, "held(0, 1, 1)", x.held(0, 1, 1), 1);
        due(24, "better(): THE WEST", x.better(), 1);
        due(25, "THE BOX never said so", x.trust(0, 0), STATE);
        due(25, "trust(2, 0): BAD", x.trust(2, 0), BAD);
        due(25, "trust(0, 2): BAD ahead of STATE", x.trust(0, 2), BAD);
        due(25, "trust(-1, 0)", x.trust(-1, 0), BAD);
        due(25, "trust(1, -1)", x.trust(1, -1), BAD);
        due(25, "trust(1, 1)", x.trust(1, 1), 1);
        due(22, "held(1, 1, 0)", x.held(1, 1, 0), 2);
        due(25, "THE BOX: 0 of 1, upper", x.trust(0, 0), 0);
        due(25, "THE BOX: 0 of 1, lower", x.trust(0, 1), 1);
        due(22, "held(0, 1, 0)", x.held(0, 1, 0), 3);
        due(22, "held(1, 1, 0)", x.held(1, 1, 0), 4);
        due(25, "THE BOX: 0 of 2, lower", x.trust(0, 1), 1);
        due(25, "THE WEST: 1 of 4, upper", x.trust(1, 0), 1);
        due(25, "THE WEST: 1 of 4, lower", x.trust(1, 1), 4);
        due(23, "right(0)", x.right(0), 1);
        due(23, "right(1)", x.right(1), 1);
        due(23, "right(2)", x.right(2), BAD);
        due(23, "right(-1)", x.right(-1), BAD);
        due(24, "both alike", x.better(), 0);
        due(22, "held(1, 1, 1)", x.held(1, 1, 1), 5);
        due(22, "held(0, 1, 1)", x.held(0, 1, 1), 6);
        due(25, "THE WEST: 3 of 6, upper", x.trust(1, 0), 1);
        due(25, "THE WEST: 3 of 6, lower", x.trust(1, 1), 2);
        for (int n = 7; n <= 30; n++) {
            due(22, "held(0, 1, 0)", x.held(0, 1, 0), n);
        }
        due(22, "a 31st", x.held(0, 1, 0), FULL);
        due(22, "BAD ahead of FULL", x.held(0, 2, 0), BAD);
        due(22, "DAYS", x.count(4), 30);
        due(23, "right(0)", x.right(0), 26);
        due(24, "better(): THE BOX", x.better(), 0);
    }

    private static void kinds() {
        ForeRain x = told("piece 40 5 3;piece 30 1 1;");
        x.rack(0);
        x.go(4);
        due(26, "mark(0, 0)", x.mark(0, 0), 36);
        due(30, "trace()", x.trace(), 1);
        due(26, "mark(1, 0)", x.mark(1, 0), 72);
        due(30, "trace()", x.trace(), 12);
        due(26, "mark(2, 0)", x.mark(2, 0), 33);
        due(30, "trace()", x.trace(), 113);
        due(26, "mark(3, 0)", x.mark(3, 0), 77);
        due(30, "trace()", x.trace(), 1124);
        due(26, "mark(4, 0)", x.mark(4, 0), 37);
        due(30, "trace()", x.trace(), 11225);
        due(26, "mark(5, 0)", x.mark(5, 0), 32);
        due(30, "trace()", x.trace(), 111226);
        due(26, "mark(6, 0)", x.mark(6, 0), NO);
        due(26, "mark(-1, 0)", x.mark(-1, 0), NO);
        due(26, "mark(0, 2)", x.mark(0, 2), NO);
        due(26, "mark(0, -1)", x.mark(0, -1), NO);
        due(30, "trace() behind BAD", x.trace(), 111226);
        x.anew();
        due(30, "trace() behind anew()", x.trace(), 111226);
        ForeRain y = told("piece 1 1 3;spot 1 9;");
        y.hang(0, 0);
        y.go(50);
        due(26, "below 0: DRYING", y.mark(2, 0), -3);
        due(26, "below 0: FROZEN", y.mark(5, 0), -50);
        due(30, "trace()", y.trace(), 100102);
    }

    private static void images() {
        ForeRain x = told("piece 99 1 1;piece 50 1 1;piece 9 1 1;spot 1 1;spot 1 9;sun 9 24;");
        due(27, "keep(2)", x.keep(2), BAD);
        due(27, "keep(-1)", x.keep(-1), BAD);
        due(28, "back(2)", x.back(2), BAD);
        due(28, "back(-1)", x.back(-1), BAD);
        due(28, "back(0) of none", x.back(0), STATE);
        x.hang(1, 1);
        x.rack(2);
        x.go(2);
        due(27, "keep(0)", x.keep(0), 2);
        due(28, "back(1) of none", x.back(1), STATE);
        int damp = x.now(1);
        int water = x.now(2);
        x.basket(1);
        x.hang(2, 0);
        x.go(12);
        x.held(1, 1, 1);
        x.mark(0, 0);
        due(27, "keep(1)", x.keep(1), 14);
        write(x, "sun");
        due(28, "back(0)", x.back(0), 2);
        due(28, "STEP", x.now(0), 2);
        due(28, "DAMP", x.now(1), damp);
        due(28, "WATER", x.now(2), water);
        due(28, "AGE", x.piece(0, 3), 2);
        due(28, "SMELLS", x.piece(0, 4), 0);
        due(28, "where 1 is", x.piece(1, 5), 1);
        due(28, "where 2 is", x.piece(2, 5), RACK);
        due(28, "DAYS stay", x.count(4), 1);
        due(28, "THE TRACE stays", x.trace(), 1);
        due(28, "THE TEXT stays", x.clear(), 3);
        due(28, "back(1)", x.back(1), 14);
        due(28, "SMELLS", x.piece(0, 4), 1);
        due(28, "where 2 is", x.piece(2, 5), 0);
        x.go(1);
        due(28, "an IMAGE does not go on", x.back(1), 14);
        due(27, "keep(0) anew", x.keep(0), 14);
        due(28, "back(0) to the newer", x.back(0), 14);
    }

    private static void counts() {
        ForeRain x = told("piece 9 1 1;piece 9 1 1;spot 1 1;sun 1 5;rain 1 2;");
        x.rack(1);
        x.held(0, 0, 0);
        x.held(0, 0, 0);
        write(x, "spot");
        due(29, "PIECES", x.count(0), 2);
        due(29, "SPOTS", x.count(1), 1);
        due(29, "STEPS told", x.count(2), 7);
        due(29, "on THE RACK", x.count(3), 1);
        due(29, "DAYS", x.count(4), 2);
        due(29, "bytes of THE TEXT", x.count(5), 4);
        due(29, "count(6)", x.count(6), BAD);
        due(29, "count(-1)", x.count(-1), BAD);
    }
}
