/** DAYS, KINDS and THE TRACE, IMAGES, counts (promises 22 to 30), at the edges. */
public final class ForeRainOtherEdges {
    private static final int BAD = -1, STATE = -2, FULL = -3, NONE = -9, NO = -1000000;
    private static final int RACK = 8, BASKET = 9;

    public static void main(String[] args) {
        howManyDays();
        howOftenRight();
        whichIsBetter();
        trustInLeastTerms();
        marksOfKinds();
        marksAtTheEdges();
        theTrace();
        imagesKeepNow();
        imagesKeepNothingElse();
        imagesAreKeptAgain();
        readAnew();
        counts();
        Due.end();
    }

    private static void howManyDays() {
        Due.by("DAYS (30 at most): what THE BOX said, what THE WEST said, what was (0 dry, 1 rain).");
        ForeRain x = new ForeRain();
        for (int n = 1; n <= 30; n++) {
            Due.is("held() of DAY " + n, x.held(n & 1, 1, n >> 1 & 1), n);
            Due.is("count(4)", x.count(4), n);
        }
        Due.is("held() of a 31st", x.held(0, 0, 0), FULL);
        Due.is("held() of a 31st with a 2", x.held(0, 2, 0), BAD);
        Due.is("count(4)", x.count(4), 30);
        Due.is("right(0)", x.right(0), 14);
        Due.is("right(1)", x.right(1), 15);
        Due.is("trust(1, 0)", x.trust(1, 0), 1);
        Due.is("trust(1, 1)", x.trust(1, 1), 2);
    }

    private static void howOftenRight() {
        Due.by("HELD of one: how often it was right");
        for (int day = 0; day < 8; day++) {
            int box = day & 1, west = day >> 1 & 1, was = day >> 2;
            ForeRain x = new ForeRain();
            Due.is("right(0) of none", x.right(0), 0);
            Due.is("right(1) of none", x.right(1), 0);
            x.held(box, west, was);
            Due.is("right(0) of " + box + west + was, x.right(0), box == was ? 1 : 0);
            Due.is("right(1) of " + box + west + was, x.right(1), west == was ? 1 : 0);
        }
        ForeRain all = new ForeRain();
        for (int n = 0; n < 30; n++) {
            all.held(n & 1, 1 - (n & 1), n & 1);
        }
        Due.is("right(0) of all", all.right(0), 30);
        Due.is("right(1) of none", all.right(1), 0);
    }

    private static void whichIsBetter() {
        Due.by("BETTER: which (0 THE BOX, 1 THE WEST; of both alike 0); NONE: no DAYS.");
        ForeRain x = new ForeRain();
        Due.is("better(): no DAYS", x.better(), NONE);
        x.held(1, 1, 0);
        Due.is("better(): both wrong", x.better(), 0);
        x.held(1, 0, 0);
        Due.is("better(): THE WEST by one", x.better(), 1);
        x.held(0, 1, 0);
        Due.is("better(): both alike", x.better(), 0);
        x.held(1, 0, 1);
        Due.is("better(): THE BOX by one", x.better(), 0);
        Probe.tell(x, "piece 1 1 1;");
        Due.is("better(): DAYS stay", x.better(), 0);
        Due.is("right(0)", x.right(0), 2);
    }

    private static void trustInLeastTerms() {
        Due.by("TRUST of one: of DAYS on which it said rain: in how many it was: a fraction (STATE: it never did).");
        ForeRain x = new ForeRain();
        Due.is("trust(0, 0): no DAYS", x.trust(0, 0), STATE);
        x.held(0, 1, 0);
        Due.is("trust(0, 0): it said dry", x.trust(0, 0), STATE);
        Due.is("trust(1, 0): 0 of 1", x.trust(1, 0), 0);
        Due.is("trust(1, 1): 0 of 1", x.trust(1, 1), 1);
        x.held(0, 0, 1);
        Due.is("trust(0, 1): it said dry again", x.trust(0, 1), STATE);
        Due.is("trust(1, 1): not when it said dry", x.trust(1, 1), 1);
        Due.by("in least terms");
        for (int said = 1; said <= 30; said++) {
            int came = said * 2 / 3;
            ForeRain y = new ForeRain();
            for (int n = 0; n < said; n++) {
                y.held(1, n % 2, n < came ? 1 : 0);
            }
            int common = said;
            while (came % common != 0 || said % common != 0) {
                common--;
            }
            Due.is("trust(0, 0): " + came + " of " + said, y.trust(0, 0), came / common);
            Due.is("trust(0, 1): " + came + " of " + said, y.trust(0, 1), said / common);
        }
        ForeRain none = new ForeRain();
        ForeRain all = new ForeRain();
        for (int n = 0; n < 30; n++) {
            none.held(1, 0, 0);
            all.held(1, 1, 1);
        }
        Due.is("trust(0, 0): 0 of 30", none.trust(0, 0), 0);
        Due.is("trust(0, 1): 0 of 30", none.trust(0, 1), 1);
        Due.is("trust(1, 0): it never did", none.trust(1, 0), STATE);
        Due.is("trust(1, 0): 30 of 30", all.trust(1, 0), 1);
        Due.is("trust(1, 1): 30 of 30", all.trust(1, 1), 1);
    }

    private static void marksOfKinds() {
        Due.by("MARK of a PIECE as if of a KIND");
        ForeRain x = Probe.told("piece 1 1 1;piece 40 7 3;spot 9 9;");
        x.rack(1);
        x.go(5);
        // WATER 35, WIDE 7, CLOTH 3, AGE 5, STEP 5
        int[] marks = {35, 70, 32, 77, 37, 30};
        for (int kind = 0; kind <= 5; kind++) {
            Due.is("mark(" + kind + ", 1)", x.mark(kind, 1), marks[kind]);
        }
        Due.is("mark(6, 1)", x.mark(6, 1), NO);
        Due.is("mark(-1, 1)", x.mark(-1, 1), NO);
        Due.is("mark(0, 2)", x.mark(0, 2), NO);
        Due.is("mark(0, -1)", x.mark(0, -1), NO);
    }

    private static void marksAtTheEdges() {
        Due.by("PIECE its WATER (1). WET up times 2 (10). DRYING up less CLOTH (100). RAINED ON up, and WIDE (1000). SMELLING up, and AGE (10000). FROZEN up less STEP (100000).");
        ForeRain dry = Probe.told("piece 1 9 3;");
        dry.rack(0);
        dry.go(99);
        int[] least = {0, 0, -3, 9, -3, -99};
        for (int kind = 0; kind <= 5; kind++) {
            Due.is("mark(" + kind + ", 0): DRY at STEP 99", dry.mark(kind, 0), least[kind]);
        }
        ForeRain wet = Probe.told("piece 99 9 1;spot 9 0;rain 9 2;");
        wet.hang(0, 0);
        wet.go(99);
        int[] most = {198, 396, 197, 405, 197 + 99, 99};
        for (int kind = 0; kind <= 5; kind++) {
            Due.is("mark(" + kind + ", 0): 198 at STEP 99", wet.mark(kind, 0), most[kind]);
        }
        ForeRain first = Probe.told("piece 1 1 3;");
        Due.is("mark(5, 0) at STEP 0", first.mark(5, 0), 1);
        Due.is("mark(4, 0) with AGE 0", first.mark(4, 0), -2);
        Due.is("mark(2, 0) below 0", first.mark(2, 0), -2);
    }

    private static void theTrace() {
        Due.by("THE TRACE (0 at first; of all calls ever, together)");
        long[] bodies = {1, 11, 101, 1011, 10101, 100001};
        for (int kind = 0; kind <= 5; kind++) {
            ForeRain x = Probe.told("piece 9 1 1;");
            Due.is("trace() at first", x.trace(), 0);
            x.mark(kind, 0);
            Due.is("trace() behind mark(" + kind + ", 0)", x.trace(), bodies[kind]);
            x.mark(kind, 0);
            Due.is("trace() behind two", x.trace(), 2 * bodies[kind]);
            x.mark(kind, 1);
            x.mark(6, 0);
            x.mark(-1, 0);
            Due.is("trace() behind refused ones", x.trace(), 2 * bodies[kind]);
        }
        ForeRain all = Probe.told("piece 9 1 1;");
        for (int n = 1; n <= 400; n++) {
            all.mark(5, 0);
        }
        Due.is("trace() behind 400", all.trace(), 40000400);
        all.anew();
        Due.is("trace() behind anew()", all.trace(), 40000400);
        all.keep(0);
        all.mark(0, 0);
        all.back(0);
        Due.is("trace() behind back()", all.trace(), 40000401);
        all.day();
        Due.is("trace() behind day()", all.trace(), 40000401);
        Due.is("another's trace()", new ForeRain().trace(), 0);
    }

    private static void present(String name, ForeRain x, int[] due) {
        int[] seen = {x.now(0), x.now(1), x.piece(0, 0), x.piece(0, 3), x.piece(0, 4), x.piece(0, 5),
            x.piece(1, 0), x.piece(1, 3), x.piece(1, 4), x.piece(1, 5)};
        for (int n = 0; n < due.length; n++) {
            Due.is(name + ", answer " + n, seen[n], due[n]);
        }
    }

    private static void imagesKeepNow() {
        Due.by("IMAGES 0, 1 keep NOW (STEP, DAMP, each one's WATER, AGE, whether it SMELLS, where it is)");
        ForeRain x = Probe.told("piece 99 1 3;piece 20 1 1;spot 1 9;spot 1 0;sun 9 1;");
        Due.is("back(0): none was kept", x.back(0), STATE);
        Due.is("keep(0) at STEP 0", x.keep(0), 0);
        Due.is("back(1): none was kept", x.back(1), STATE);
        x.hang(0, 0);
        x.rack(1);
        x.go(1);
        Due.is("keep(1) at STEP 1", x.keep(1), 1);
        int[] first = {0, 0, 99, 0, 0, BASKET, 20, 0, 0, BASKET};
        int[] second = {1, 6, 45, 1, 0, 0, 19, 1, 0, RACK};
        x.basket(0);
        x.hang(1, 1);
        x.go(98);
        int[] third = {99, 0, 45, 99, 1, BASKET, 19, 99, 1, 1};
        present("STEP 99", x, third);
        Due.is("back(1)", x.back(1), 1);
        present("IMAGE 1", x, second);
        Due.is("back(0)", x.back(0), 0);
        present("IMAGE 0", x, first);
        Due.is("back(1) again", x.back(1), 1);
        present("IMAGE 1 again", x, second);
        Due.is("spot(0, 2)", x.spot(0, 2), 0);
        Due.is("count(3)", x.count(3), 1);
        Due.is("go(1)", x.go(1), 21);
        Due.is("back(1): it did not go on", x.back(1), 1);
        present("IMAGE 1 once more", x, second);
        x.go(98);
        Due.is("keep(0) at STEP 99", x.keep(0), 99);
        x.anew();
        Due.is("back(0) to STEP 99", x.back(0), 99);
        Due.is("go(1)", x.go(1), STATE);
        Due.is("keep(2)", x.keep(2), BAD);
        Due.is("keep(-1)", x.keep(-1), BAD);
        Due.is("back(2)", x.back(2), BAD);
        Due.is("back(-1)", x.back(-1), BAD);
    }

    private static void imagesKeepNothingElse() {
        Due.by("nothing else. (Read anew");
        ForeRain x = Probe.told("piece 9 1 1;spot 1 1;sun 1 1;");
        x.keep(0);
        x.held(1, 1, 1);
        x.mark(1, 0);
        Probe.type(x, "sun 2 2;");
        x.keep(1);
        x.back(0);
        Due.is("count(4)", x.count(4), 1);
        Due.is("right(1)", x.right(1), 1);
        Due.is("trace()", x.trace(), 11);
        Due.is("count(5)", x.count(5), 8);
        Due.is("back(1): an IMAGE does not keep the other", x.back(1), 0);
        Due.is("day()", x.day(), 1);
    }

    private static void imagesAreKeptAgain() {
        Due.by("An IMAGE is kept: the STEP. BAD.");
        ForeRain x = Probe.told("piece 9 1 1;");
        x.rack(0);
        for (int step = 0; step <= 3; step++) {
            Due.is("keep(0)", x.keep(0), step);
            Due.is("back(0) to the newest", x.back(0), step);
            Due.is("piece(0, 0)", x.piece(0, 0), 9 - step);
            x.go(1);
        }
        Due.is("back(1): the other was not kept", x.back(1), STATE);
        Probe.unchanged("keep(1), back(1)", () -> {
            ForeRain y = Probe.told("piece 9 1 1;spot 1 1;");
            y.hang(0, 0);
            y.go(3);
            y.keep(1);
            return y;
        }, y -> y.keep(1) + y.back(1), 6);
    }

    private static void readAnew() {
        Due.by("(Read anew: NOW is as at first, IMAGES are gone; DAYS stay; THE TRACE stays.)");
        for (String text : new String[] {"piece 9 1 1;spot 1 1;", ""}) {
            ForeRain x = Probe.told("piece 9 1 1;spot 1 1;");
            x.hang(0, 0);
            x.go(20);
            x.keep(0);
            x.keep(1);
            x.held(1, 0, 1);
            x.mark(0, 0);
            Due.is("day() with a FAULT", Probe.tell(x, text + "x"), -10 - text.length());
            Due.is("back(0): a FAULT changes nothing", x.back(0), 20);
            Due.is("day()", Probe.tell(x, text), text.isEmpty() ? 0 : 2);
            Due.is("now(0)", x.now(0), 0);
            Due.is("now(3)", x.now(3), 0);
            Due.is("now(5)", x.now(5), 0);
            Due.is("back(0)", x.back(0), STATE);
            Due.is("back(1)", x.back(1), STATE);
            Due.is("count(4)", x.count(4), 1);
            Due.is("right(0)", x.right(0), 1);
            Due.is("trust(0, 0)", x.trust(0, 0), 1);
            Due.is("trace()", x.trace(), 1);
        }
    }

    private static void counts() {
        Due.by("0 PIECES, 1 SPOTS, 2 STEPS told, 3 on THE RACK, 4 DAYS, 5 bytes of THE TEXT. BAD.");
        ForeRain x = Probe.told("piece 9 1 1;".repeat(6) + "spot 1 1;".repeat(5) + "sun 1 24;");
        for (int i = 0; i <= 2; i++) {
            x.rack(i);
        }
        for (int n = 0; n < 30; n++) {
            x.held(0, 0, 0);
        }
        Probe.type(x, " ".repeat(300));
        int[] most = {6, 5, 24, 3, 30, 300};
        for (int what = 0; what <= 5; what++) {
            Due.is("count(" + what + ")", x.count(what), most[what]);
        }
        Due.is("count(6)", x.count(6), BAD);
        Due.is("count(-1)", x.count(-1), BAD);
        x.go(99);
        Due.is("count(2): as told, though they are gone by", x.count(2), 24);
    }
}
