import java.util.ArrayList;
import java.util.List;

/** Makes objects as texts tell them, and asks an object for all that it holds. */
final class Probe {
    /** Makes the same object each time. */
    interface World {
        ForeRain made();
    }

    interface Call {
        long of(ForeRain x);
    }

    private final ForeRain x;
    private final List<String> answers = new ArrayList<>();

    private Probe(ForeRain x) {
        this.x = x;
    }

    /** By eights, since an object is good for 512 calls only. */
    static void type(ForeRain x, String text) {
        for (int from = 0; from < text.length(); from += 8) {
            int to = Math.min(text.length(), from + 8);
            long v = 0;
            for (int at = from; at < to; at++) {
                v = v << 8 | text.charAt(at);
            }
            x.type(v, to - from);
        }
    }

    static int tell(ForeRain x, String text) {
        x.clear();
        type(x, text);
        return x.day();
    }

    static ForeRain told(String text) {
        ForeRain x = new ForeRain();
        if (tell(x, text) < 0) {
            throw new IllegalStateException("this text has a fault: " + text);
        }
        return x;
    }

    /** The call answers so, and leaves the object as its twin is, of which nothing was asked. */
    static void unchanged(String name, World world, Call call, long want) {
        ForeRain asked = world.made();
        Due.is(name, call.of(asked), want);
        Due.alike(name, all(asked), all(world.made()));
    }

    /** All that an object can be asked for; it can't be used for anything else behind that. */
    static List<String> all(ForeRain x) {
        Probe probe = new Probe(x);
        probe.counts();
        probe.present();
        probe.told();
        probe.foretold();
        probe.days();
        for (int image = 0; image <= 1; image++) {
            probe.note("back(" + image + ")", x.back(image));
            probe.present();
        }
        probe.note("day()", x.day());
        probe.counts();
        probe.told();
        return probe.answers;
    }

    private void note(String call, long answer) {
        answers.add(call + " = " + answer);
    }

    private void counts() {
        for (int what = 0; what <= 5; what++) {
            note("count(" + what + ")", x.count(what));
        }
    }

    private void present() {
        for (int what = 0; what <= 5; what++) {
            note("now(" + what + ")", x.now(what));
        }
        for (int i = 0; i < x.count(0); i++) {
            note("piece(" + i + ", 0)", x.piece(i, 0));
            for (int what = 3; what <= 5; what++) {
                note("piece(" + i + ", " + what + ")", x.piece(i, what));
            }
        }
    }

    private void told() {
        for (int i = 0; i < x.count(0); i++) {
            note("piece(" + i + ", 1)", x.piece(i, 1));
            note("piece(" + i + ", 2)", x.piece(i, 2));
        }
        for (int k = 0; k < x.count(1); k++) {
            for (int what = 0; what <= 2; what++) {
                note("spot(" + k + ", " + what + ")", x.spot(k, what));
            }
        }
        for (int step = 0; step <= 24; step++) {
            note("sky(" + step + ")", x.sky(step));
        }
    }

    private void foretold() {
        for (int i = 0; i < x.count(0); i++) {
            note("when(" + i + ")", x.when(i));
        }
        note("coins(2)", x.coins(2));
        note("where(2, -1)", x.where(2, -1));
        note("order(3, -1)", x.order(3, -1));
        note("odds(1, 3, 1)", x.odds(1, 3, 1));
        note("pegs()", x.pegs());
    }

    private void days() {
        for (int who = 0; who <= 1; who++) {
            note("right(" + who + ")", x.right(who));
            note("trust(" + who + ", 0)", x.trust(who, 0));
            note("trust(" + who + ", 1)", x.trust(who, 1));
        }
        note("better()", x.better());
        note("trace()", x.trace());
    }
}
