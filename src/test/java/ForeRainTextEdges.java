/** THE TEXT, its ITEMS, TOKENS and FAULT (promises 2 to 4): each number at its edge and one beyond it. */
public final class ForeRainTextEdges {
    private static final int BAD = -1, FULL = -3;
    private static final String BLANKS = " ".repeat(300);

    public static void main(String[] args) {
        lengthOfTheText();
        bytesOfANumber();
        emptying();
        howManyPieces();
        howManySpots();
        howManySteps();
        numbersOfItems();
        blanks();
        itemsAndTheirEnds();
        letters();
        digits();
        numbersAboveAll();
        zeroAhead();
        endsTooEarly();
        theFirstFault();
        noneOfThese();
        tellsAllAndIsEmpty();
        aFaultChangesNothing();
        Due.end();
    }

    /** A text of all that may be told: 291 bytes, 35 items, but for its last ; . */
    private static String allThatMayBe() {
        return "piece 99 9 3;".repeat(6) + "spot 9 9;".repeat(5) + "sun9 1;".repeat(23) + "rain9 1";
    }

    private static void good(String text, int items) {
        ForeRain x = new ForeRain();
        Probe.type(x, text);
        Due.is("day() of '" + text + "'", x.day(), items);
        Due.is("count(5) behind day() of '" + text + "'", x.count(5), 0);
    }

    private static void fault(String text, int place) {
        Probe.unchanged("day() of '" + text + "'", () -> {
            ForeRain x = Probe.told("piece 4 3 2;spot 5 6;sun 7 8;");
            Probe.type(x, text);
            return x;
        }, ForeRain::day, -10 - place);
    }

    private static ForeRain withBytes(int bytes) {
        ForeRain x = Probe.told("piece 4 3 2;");
        Probe.type(x, BLANKS.substring(0, bytes));
        return x;
    }

    private static void lengthOfTheText() {
        Due.by("They are a text (300 bytes at most)");
        for (int n = 1; n <= 8; n++) {
            int bytes = n;
            ForeRain x = withBytes(300 - n);
            Due.is("type(0, " + n + ") to " + (300 - n), x.type(0, n), 300);
            Due.is("count(5)", x.count(5), 300);
            Probe.unchanged("type(0, " + n + ") to " + (301 - n), () -> withBytes(301 - bytes),
                y -> y.type(0, bytes), FULL);
            Probe.unchanged("type(0, " + n + ") to 300", () -> withBytes(300), y -> y.type(0, bytes), FULL);
        }
        good(BLANKS, 0);
        fault(BLANKS.substring(1) + "x", 299);
        fault("sun 1" + BLANKS.substring(5), 300);
    }

    private static void bytesOfANumber() {
        Due.by("The lowest n (1 .. 8) bytes of v, the highest of them first, come to THE TEXT: how many it has.");
        for (int n : new int[] {0, 9, -1, 10, 16, Integer.MIN_VALUE, Integer.MAX_VALUE}) {
            Probe.unchanged("type(;, " + n + ")", () -> withBytes(7), x -> x.type(';', n), BAD);
            Probe.unchanged("type(;, " + n + ") to 300", () -> withBytes(300), x -> x.type(';', n), BAD);
        }
        ForeRain x = new ForeRain();
        Due.is("type(.. s, 1)", x.type(-256L | 's', 1), 1);
        Due.is("type(.. un 9 12, 7)", x.type(0x80756E2039203132L, 7), 8);
        Due.is("type(;rain 8 , 8)", x.type(0x3B7261696E203820L, 8), 16);
        Due.is("type(1;, 2)", x.type(0x7FFFFFFFFFFF313BL, 2), 18);
        Due.is("day()", x.day(), 2);
        Due.is("sky(11)", x.sky(11), 9);
        Due.is("sky(12)", x.sky(12), -8);
        Due.is("sky(13)", x.sky(13), 0);
        ForeRain y = new ForeRain();
        Due.is("type(blanks and MIN's eighth byte)", y.type(0x2020202020202080L, 8), 8);
        Due.is("day(): the eighth comes last", y.day(), -17);
        y.clear();
        Due.is("type(MIN, 8)", y.type(Long.MIN_VALUE, 8), 8);
        Due.is("type(-1, 8)", y.type(-1, 8), 16);
        Due.is("day()", y.day(), -10);
    }

    private static void emptying() {
        Due.by("THE TEXT is empty: how many bytes it had.");
        Due.is("clear() of none", new ForeRain().clear(), 0);
        for (int bytes : new int[] {1, 8, 299, 300}) {
            ForeRain x = withBytes(bytes);
            Due.is("clear() of " + bytes, x.clear(), bytes);
            Due.is("count(5)", x.count(5), 0);
            Due.is("clear() again", x.clear(), 0);
            Due.is("count(0): PIECES stay", x.count(0), 1);
        }
        ForeRain full = withBytes(300);
        full.clear();
        Probe.type(full, BLANKS);
        Due.is("count(5), filled again", full.count(5), 300);
        Probe.unchanged("clear() and all typed again", () -> withBytes(9), x -> {
            x.clear();
            Probe.type(x, BLANKS.substring(0, 9));
            return x.count(5);
        }, 9);
    }

    private static void howManyPieces() {
        Due.by("(a seventh piece, a sixth spot, an N beyond what is left of 24 STEPS, a NUMBER beyond what it may be, too)");
        String six = "piece 1 1 1;".repeat(6);
        good(six, 6);
        fault(six + "piece 1 1 1;", 72);
        fault(six + "piece", 72);
        fault(six + " spot 1 1; piece 0 1 1;", 83);
        Due.by("(6 at most) have WATER (1 .. 99)");
        ForeRain x = Probe.told("piece 1 1 1;".repeat(5) + "piece 7 8 3;");
        Due.is("count(0)", x.count(0), 6);
        Due.is("piece(5, 0)", x.piece(5, 0), 7);
        Due.is("piece(5, 1)", x.piece(5, 1), 8);
        Due.is("piece(5, 2)", x.piece(5, 2), 3);
        Due.is("piece(6, 0)", x.piece(6, 0), BAD);
    }

    private static void howManySpots() {
        Due.by("SPOTS 0 .. (5 at most), side by side, have ROOM (1 .. 9) and WIND (0 .. 9).");
        String five = "spot 1 1;".repeat(5);
        good(five, 5);
        fault(five + "spot 1 1;", 45);
        fault(five + "spot", 45);
        fault(five + "  sun 1 1;spot", 55);
        ForeRain x = Probe.told("spot 1 1;".repeat(4) + "spot 6 7;");
        Due.is("count(1)", x.count(1), 5);
        Due.is("spot(4, 0)", x.spot(4, 0), 6);
        Due.is("spot(4, 1)", x.spot(4, 1), 7);
        Due.is("spot(5, 0)", x.spot(5, 0), BAD);
    }

    private static void howManySteps() {
        Due.by("THE SKY: STEPS 0 .. (24 at most) of SUN (0 .. 9) or RAIN (1 .. 9); behind them SUN 0.");
        good("sun 1 24;", 1);
        good("rain 1 24;", 1);
        good("rain 1 1;".repeat(24), 24);
        good("sun 1 23;rain 1 1;", 2);
        fault("sun 1 25;", 6);
        fault("rain 1 25;", 7);
        fault("sun 1 23;rain 1 2;", 16);
        fault("rain 1 23;sun 1 2;", 16);
        fault("sun 1 24;sun 1 1;", 15);
        fault("sun 1 24;rain 1 1;", 16);
        fault("rain 1 1;".repeat(24) + "sun 1 1;", 222);
        fault("sun 1 24;sun", 12);
        fault("sun 1 24;sun 10 1;", 13);
        ForeRain x = Probe.told("sun 1 23;rain 4 1;");
        Due.is("count(2)", x.count(2), 24);
        Due.is("sky(22)", x.sky(22), 1);
        Due.is("sky(23)", x.sky(23), -4);
        Due.is("sky(24)", x.sky(24), 0);
        Due.is("sky(99)", x.sky(99), 0);
    }

    /** The NUMBER stands behind ahead; least and most are good, one beyond each is a FAULT there. */
    private static void number(String ahead, int least, int most, String behind) {
        good(ahead + least + behind, 1);
        good(ahead + most + behind, 1);
        if (least > 0) {
            fault(ahead + (least - 1) + behind, ahead.length());
        }
        fault(ahead + (most + 1) + behind, ahead.length());
        fault(ahead + "99999" + behind, ahead.length());
        fault(ahead + "-" + least + behind, ahead.length());
    }

    private static void numbersOfItems() {
        Due.by("have WATER (1 .. 99), are WIDE (1 .. 9), of a CLOTH (1 thick, 2, 3 thin).");
        number("piece ", 1, 99, " 1 1;");
        number("piece 1 ", 1, 9, " 1;");
        number("piece 1 1 ", 1, 3, ";");
        Due.by("have ROOM (1 .. 9) and WIND (0 .. 9)");
        number("spot ", 1, 9, " 1;");
        number("spot 1 ", 0, 9, ";");
        Due.by("of SUN (0 .. 9) or RAIN (1 .. 9)");
        number("sun ", 0, 9, " 1;");
        number("rain ", 1, 9, " 1;");
        Due.by("(N STEPS more, 1 .. 24)");
        number("sun 1 ", 1, 24, ";");
        number("rain 1 ", 1, 24, ";");
        ForeRain x = Probe.told("sun 3 1;rain 2 2;");
        Due.is("count(2)", x.count(2), 3);
        Due.is("sky(0)", x.sky(0), 3);
        Due.is("sky(1)", x.sky(1), -2);
        Due.is("sky(2)", x.sky(2), -2);
        Due.is("sky(3)", x.sky(3), 0);
    }

    private static void blanks() {
        Due.by("blanks (32) ahead of, between and behind TOKENS as may be (none needed where TOKENS end without)");
        good(" sun 1 1;", 1);
        good("sun 1 1 ;", 1);
        good("sun 1 1; ", 1);
        good("sun" + BLANKS.substring(100) + "1 1;", 1);
        good("sun 1" + BLANKS.substring(100) + "1;", 1);
        good(BLANKS.substring(8) + "sun 1 1;", 1);
        good("sun 1 1;" + BLANKS.substring(8), 1);
        good("piece1 1 1;spot1 1;sun1 1;rain1 1;", 4);
        fault("piecespot 1 1;", 0);
        fault("sun 11;", 4);
        fault("su n 1 1;", 0);
        for (int sign = 0; sign <= 255; sign++) {
            if (sign != ' ' && sign != ';' && !(sign >= '0' && sign <= '9') && !(sign >= 'a' && sign <= 'z')) {
                fault("sun" + (char) sign + "1 1;", 3);
            }
        }
    }

    private static void itemsAndTheirEnds() {
        Due.by("ITEMS (none, too), each ended by ;");
        good("", 0);
        good(" ", 0);
        good("sun 1 1;", 1);
        fault(";", 0);
        fault(" ;", 1);
        fault("sun 1 1;;", 8);
        fault("sun 1 1; ;", 9);
        fault("sun 1 1 sun 1 1;", 8);
        for (int sign = 0; sign <= 255; sign++) {
            if (sign != ' ' && sign != ';' && !(sign >= '0' && sign <= '9')) {
                fault("sun 1 1" + (char) sign, 7);
                fault("sun 1 1 " + (char) sign, 8);
            }
        }
        fault("piece 1 1 1 1;", 12);
        fault("piece 1 1;", 9);
        fault("spot 1 1 1;", 9);
        fault("spot 1;", 6);
        fault("sun 1 1 1;", 8);
        fault("sun 1;", 5);
        fault("rain 1 1 1;", 9);
        fault("rain 1;", 6);
        fault("rain;", 4);
        fault("1 sun 1;", 0);
    }

    private static void letters() {
        Due.by("TOKENS are words of letters a .. z (piece, spot, sun, rain), NUMBERS and ; .");
        // a letter makes another word of it, which is none; what is no letter ends the word
        fault("suna 1 1;", 0);
        fault("sunz 1 1;", 0);
        fault("sun` 1 1;", 3);
        fault("sun{ 1 1;", 3);
        fault("sunA 1 1;", 3);
        fault("sunZ 1 1;", 3);
        fault(" asun 1 1;", 1);
        fault(" zsun 1 1;", 1);
        fault("SUN 1 1;", 0);
        fault("sUn 1 1;", 0);
        fault("s" + (char) ('u' + 128) + "n 1 1;", 0);
    }

    private static void digits() {
        Due.by("of a byte that begins none, a word that is none of these, a NUMBER above 99 or with a 0 ahead of others, that TOKEN's");
        // a digit makes another NUMBER of it; what is none ends the NUMBER, and begins none
        good("piece 10 1 1;", 1);
        good("piece 19 1 1;", 1);
        fault("piece 1/ 1 1;", 7);
        fault("piece 1: 1 1;", 7);
        fault("piece 1a 1 1;", 7);
        fault("piece 1.1 1;", 7);
        fault("piece +1 1 1;", 6);
        fault("piece 1 1 1" + (char) (';' + 128), 11);
    }

    private static void numbersAboveAll() {
        Due.by("a NUMBER above 99");
        good("piece 99 1 1;", 1);
        fault("piece 100 1 1;", 6);
        fault("piece 101 1 1;", 6);
        fault("piece 256 1 1;", 6);
        fault("piece 257 1 1;", 6);
        fault("piece 65537 1 1;", 6);
        fault("piece 2147483648 1 1;", 6);
        fault("piece 4294967295 1 1;", 6);
        fault("piece 4294967297 1 1;", 6);
        fault("piece 18446744073709551617 1 1;", 6);
        fault("piece 340282366920938463463374607431768211457 1 1;", 6);
        fault("piece " + "9".repeat(294), 6);
        fault("piece 1" + "0".repeat(293), 6);
        fault("100", 0);
        fault("sun 1 1 100;", 8);
        fault("sun 1 1;100", 8);
    }

    private static void zeroAhead() {
        Due.by("with a 0 ahead of others");
        good("spot 1 0;", 1);
        good("sun 0 1;", 1);
        good("sun 0 10;", 1);
        good("piece 90 1 1;", 1);
        fault("spot 1 00;", 7);
        fault("spot 1 01;", 7);
        fault("spot 01 1;", 5);
        fault("sun 09 1;", 4);
        fault("sun 1 010;", 6);
        fault("piece 099 1 1;", 6);
        fault("piece 1 1 03;", 10);
        fault("piece " + "0".repeat(294), 6);
    }

    private static void endsTooEarly() {
        Due.by("the text's length, if it ends too early");
        for (String item : new String[] {"piece 1 2 3;", "spot 4 5;", "sun 6 7;", "rain 8 9;"}) {
            int word = item.indexOf(' ');
            for (int end = word; end < item.length(); end++) {
                fault(item.substring(0, end), end);
                fault(item.substring(0, end) + "  ", end + 2);
                fault("spot 1 1; " + item.substring(0, end), 10 + end);
            }
            for (int end = 1; end < word; end++) {
                fault(item.substring(0, end), 0);
            }
            good(item, 1);
        }
    }

    private static void theFirstFault() {
        Due.by("the place of the first byte of the first TOKEN that can't stand there");
        fault("sun 1 0; rain 0 0; x", 6);
        fault("sun 1 1; rain 0 0; x", 14);
        fault("sun 1 1; rain 1 0; x", 16);
        fault("sun 1 1; rain 1 1; x", 19);
        fault("sun 1 1; rain 1 1; xyz;", 19);
        fault("piece 100 0 0;", 6);
        fault("piece 1 0 0;", 8);
        fault("piece 1 1 0", 10);
        fault("   12", 3);
        fault("  piece   spot", 10);
        fault("piece 1 1 1   spot", 14);
        fault("sun  ;", 5);
        fault("  \t", 2);
    }

    private static void noneOfThese() {
        Due.by("a word that is none of these");
        fault("p", 0);
        for (String item : new String[] {"piece 1 1 1;", "spot 1 1;", "sun 1 1;", "rain 1 1;"}) {
            for (int at = 0; item.charAt(at) != ' '; at++) {
                fault(item.substring(0, at) + "x" + item.substring(at + 1), 0);
                fault(item.substring(0, at) + "x" + item.substring(at), 0);
                fault(item.substring(0, at) + (char) (item.charAt(at) - 1) + item.substring(at + 1), 0);
            }
        }
        fault("piec 1 1 1;", 0);
        fault("pieces 1 1 1;", 0);
        fault("iece 1 1 1;", 0);
        fault("spo 1 1;", 0);
        fault("spots 1 1;", 0);
        fault("su 1 1;", 0);
        fault("suns 1 1;", 0);
        fault("ran 1 1;", 0);
        fault("rains 1 1;", 0);
        fault("snow 1 1;", 0);
        fault("sum 1 1;", 0);
        fault("sun 1 1;" + "z".repeat(292), 8);
    }

    private static void tellsAllAndIsEmpty() {
        Due.by("THE TEXT tells all, and is empty then: how many ITEMS.");
        good(allThatMayBe() + ";", 35);
        good(allThatMayBe() + BLANKS.substring(0, 8) + ";", 35);
        fault(allThatMayBe() + BLANKS.substring(0, 9), 300);
        ForeRain x = Probe.told("piece 9 1 1;piece 8 2 2;spot 1 1;spot 2 2;sun 5 3;");
        Due.is("day() of one PIECE", Probe.tell(x, "piece 7 3 3;"), 1);
        Due.is("count(0)", x.count(0), 1);
        Due.is("piece(0, 0)", x.piece(0, 0), 7);
        Due.is("piece(1, 0)", x.piece(1, 0), BAD);
        Due.is("count(1)", x.count(1), 0);
        Due.is("spot(0, 0)", x.spot(0, 0), BAD);
        Due.is("count(2)", x.count(2), 0);
        Due.is("sky(0)", x.sky(0), 0);
        Due.is("day() of none", x.day(), 0);
        Due.is("count(0)", x.count(0), 0);
        Due.is("piece(0, 0)", x.piece(0, 0), BAD);
    }

    private static ForeRain inTheMiddle(String text) {
        ForeRain x = Probe.told("piece 40 2 3;piece 9 1 1;piece 60 4 2;spot 3 4;spot 9 0;sun 5 6;rain 2 3;");
        x.hang(0, 0);
        x.rack(1);
        x.go(2);
        x.keep(0);
        x.go(11);
        x.keep(1);
        x.hang(2, 1);
        x.held(1, 0, 1);
        x.mark(3, 0);
        Probe.type(x, text);
        return x;
    }

    private static void aFaultChangesNothing() {
        Due.by("-10 less FAULT: nothing changes (THE TEXT, too, stays).");
        String[] texts = {"x", "spot 9 9;rain 1 1;piece 1 1 1", "piece 1 1 1;".repeat(7), "sun 1 24;sun 1 1;",
            "piece 5 1 1;spot 1 1;sun 1 1;0"};
        int[] places = {0, 29, 72, 15, 29};
        for (int n = 0; n < texts.length; n++) {
            String text = texts[n];
            Probe.unchanged("day() of '" + text + "'", () -> inTheMiddle(text), ForeRain::day, -10 - places[n]);
            Probe.unchanged("day() twice of '" + text + "'", () -> inTheMiddle(text), x -> {
                x.day();
                return x.day();
            }, -10 - places[n]);
        }
        ForeRain mended = inTheMiddle("sun 4 2");
        Due.is("day() that ends too early", mended.day(), -17);
        mended.type(';', 1);
        Due.is("day(), ended", mended.day(), 1);
        Due.is("sky(1)", mended.sky(1), 4);
        Due.is("count(0)", mended.count(0), 0);
    }
}
