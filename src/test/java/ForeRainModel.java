import java.math.BigInteger;
import java.util.ArrayList;
import java.util.Arrays;
import java.util.List;
import java.util.Random;
import java.util.regex.Matcher;
import java.util.regex.Pattern;

/**
 * Runs of random calls (the same ones each time), each asked of the class and of a second
 * program, written anew from the document in other ways.
 */
public final class ForeRainModel {
    private static final int BAD = -1, STATE = -2, FULL = -3, NONE = -9, NO = -1000000;
    private static final int RUNS = 600;
    private static final int CALLS = 512;

    public static void main(String[] args) {
        int wrong = 0;
        int[] asked = new int[Run.NAMES.length];
        for (int seed = 0; seed < RUNS && wrong < 20; seed++) {
            Run run = new Run(seed, asked);
            for (int call = 0; call < CALLS; call++) {
                if (!run.ask()) {
                    wrong++;
                    System.out.println("run " + seed + ", call " + call + ": " + run.said);
                    break;
                }
            }
        }
        System.out.println("calls asked for: " + Arrays.toString(asked));
        System.out.println(wrong == 0 ? "all answers are as the model's" : wrong + " runs are not as the model's");
        if (wrong != 0) {
            System.exit(1);
        }
    }

    /** One run: the class and the model side by side. */
    private static final class Run {
        static final String[] NAMES = {"type", "clear", "day", "piece", "spot", "sky", "hang", "rack", "basket",
            "go", "now", "anew", "when", "damp", "where", "order", "odds", "roomFor", "pegs", "coins", "held",
            "right", "better", "trust", "mark", "keep", "back", "count", "trace"};
        final ForeRain x = new ForeRain();
        final Model m = new Model();
        final Random random;
        final int[] asked;
        final int boldness;
        String pending = "";
        String said = "";

        Run(long seed, int[] asked) {
            random = new Random(seed);
            this.asked = asked;
            boldness = random.nextInt(4);
            pending = goodText();
        }

        int upTo(int most) {
            return random.nextInt(most + 1);
        }

        /** Mostly from least to most, now and then just beside it or far away. */
        int num(int least, int most) {
            int kind = random.nextInt(60);
            if (kind == 0) return least - 1;
            if (kind == 1) return most + 1;
            if (kind == 2) return random.nextInt();
            return least + random.nextInt(Math.max(1, most - least + 1));
        }

        String goodText() {
            StringBuilder text = new StringBuilder();
            int pieces = upTo(6), spots = upTo(5), left = 24;
            int rooms = random.nextBoolean() ? 9 : 3;
            for (int i = 0; i < pieces; i++) {
                text.append("piece ").append(1 + upTo(random.nextBoolean() ? 98 : 20)).append(' ')
                    .append(1 + upTo(8)).append(' ').append(1 + upTo(2)).append(';');
            }
            for (int k = 0; k < spots; k++) {
                text.append(" spot").append(9 - upTo(rooms == 9 ? 8 : 3)).append(' ')
                    .append(upTo(random.nextBoolean() ? 9 : 1)).append(" ;");
            }
            for (int n = upTo(6); n > 0 && left > 0; n--) {
                int more = 1 + upTo(Math.min(left - 1, 9));
                left -= more;
                boolean rain = random.nextInt(4) == 0;
                text.append(rain ? "rain " + (1 + upTo(8)) : "sun " + upTo(9)).append(' ').append(more).append(';');
            }
            return text.toString();
        }

        /** A good text with a few bytes changed, added or left out. */
        String text() {
            StringBuilder text = new StringBuilder(goodText());
            int changes = random.nextInt(3) == 0 ? 1 + upTo(2) : 0;
            String signs = "0123456789 ;;piecespotsunrain,A" + (char) 200 + (char) 0 + '/' + ':' + '`' + '{';
            for (int n = 0; n < changes; n++) {
                int at = upTo(text.length());
                char sign = signs.charAt(random.nextInt(signs.length()));
                if (random.nextInt(3) == 0 || at == text.length()) {
                    text.insert(at, sign);
                } else if (random.nextBoolean()) {
                    text.setCharAt(at, sign);
                } else {
                    text.deleteCharAt(at);
                }
            }
            if (random.nextInt(12) == 0) {
                text.append(goodText());
            }
            return text.toString();
        }

        boolean check(String call, int name, long got, long want) {
            asked[name]++;
            said = call + " answered " + got + ", due is " + want;
            return got == want;
        }

        boolean typePending() {
            int n = Math.min(pending.length(), 1 + upTo(7));
            long v = random.nextLong();
            for (int at = 0; at < n; at++) {
                v = v << 8 | pending.charAt(at);
            }
            pending = pending.substring(n);
            if (pending.isEmpty()) {
                pending = null;
            }
            return check("type(" + v + ", " + n + ")", 0, x.type(v, n), m.type(v, n));
        }

        boolean ask() {
            if (pending != null && !pending.isEmpty()) {
                return typePending();
            }
            if (pending == null) {
                pending = "";
                return check("day()", 2, x.day(), m.day());
            }
            int pick = random.nextInt(100);
            if (pick < 1 + boldness / 2) {
                pending = text();
                return check("clear()", 1, x.clear(), m.clear());
            }
            if (pick < 45) {
                return act();
            }
            return pick < 75 ? foretell() : pick < 85 ? look() : other();
        }

        boolean act() {
            int i = num(0, m.pieces.size() - 1), k = num(0, m.spots.size() - 1);
            switch (random.nextInt(12)) {
                case 0: case 1: case 2: case 3: case 4:
                    return check("hang(" + i + ", " + k + ")", 6, x.hang(i, k), m.hang(i, k));
                case 5:
                    return check("rack(" + i + ")", 7, x.rack(i), m.rack(i));
                case 6:
                    return check("basket(" + i + ")", 8, x.basket(i), m.basket(i));
                case 7: case 8: case 9: case 10: {
                    int n = random.nextInt(30) == 0 ? num(1, 99) : 1 + upTo(boldness);
                    return check("go(" + n + ")", 9, x.go(n), m.go(n));
                }
                default:
                    return random.nextInt(4) != 0 || check("anew()", 11, x.anew(), m.anew());
            }
        }

        boolean foretell() {
            int i = num(0, m.pieces.size() - 1);
            int what = num(0, 1);
            switch (random.nextInt(9)) {
                case 0:
                    return check("when(" + i + ")", 12, x.when(i), m.when(i));
                case 1: case 2: {
                    int a = num(0, 99), b = random.nextInt(5) == 0 ? num(0, 99) : num(a, Math.min(99, a + 20));
                    return check("damp(" + i + ", " + a + ", " + b + ", " + what + ")", 13,
                        x.damp(i, a, b, what), m.damp(i, a, b, what));
                }
                case 3: {
                    if (random.nextInt(3) != 0) return true;
                    int n = num(1, 24), of = random.nextInt(3) == 0 ? -1 : i;
                    return check("where(" + n + ", " + of + ")", 14, x.where(n, of), m.where(n, of));
                }
                case 4: {
                    int rain = num(1, 9), k = num(-1, 5);
                    return check("order(" + rain + ", " + k + ")", 15, x.order(rain, k), m.order(rain, k));
                }
                case 5: {
                    int b = num(1, 9), a = num(0, Math.max(0, Math.min(9, b)));
                    return check("odds(" + a + ", " + b + ", " + what + ")", 16, x.odds(a, b, what), m.odds(a, b, what));
                }
                case 6: {
                    int k = num(1, 5);
                    return check("roomFor(" + k + ")", 17, x.roomFor(k), m.roomFor(k));
                }
                case 7:
                    return check("pegs()", 18, x.pegs(), m.pegs());
                default: {
                    int n = num(0, 24);
                    return check("coins(" + n + ")", 19, x.coins(n), m.coins(n));
                }
            }
        }

        boolean look() {
            int what = num(0, 5);
            switch (random.nextInt(4)) {
                case 0: {
                    int i = num(0, m.pieces.size() - 1);
                    return check("piece(" + i + ", " + what + ")", 3, x.piece(i, what), m.piece(i, what));
                }
                case 1: {
                    int k = num(0, m.spots.size() - 1), of = num(0, 2);
                    return check("spot(" + k + ", " + of + ")", 4, x.spot(k, of), m.spot(k, of));
                }
                case 2: {
                    int step = num(0, random.nextBoolean() ? 99 : 24);
                    return check("sky(" + step + ")", 5, x.sky(step), m.sky(step));
                }
                default:
                    return check("now(" + what + ")", 10, x.now(what), m.now(what));
            }
        }

        boolean other() {
            int who = num(0, 1), what = num(0, 1);
            switch (random.nextInt(10)) {
                case 0: case 1: {
                    int was = num(0, 1);
                    return check("held(" + who + ", " + what + ", " + was + ")", 20,
                        x.held(who, what, was), m.held(who, what, was));
                }
                case 2: return check("right(" + who + ")", 21, x.right(who), m.right(who));
                case 3: return check("better()", 22, x.better(), m.better());
                case 4: return check("trust(" + who + ", " + what + ")", 23, x.trust(who, what), m.trust(who, what));
                case 5: case 6: {
                    int kind = num(0, 5), i = num(0, m.pieces.size() - 1);
                    return check("mark(" + kind + ", " + i + ")", 24, x.mark(kind, i), m.mark(kind, i))
                        && check("trace()", 28, x.trace(), m.trace);
                }
                case 7: return check("keep(" + who + ")", 25, x.keep(who), m.keep(who));
                case 8: return check("back(" + who + ")", 26, x.back(who), m.back(who));
                default: {
                    int of = num(0, 5);
                    return check("count(" + of + ")", 27, x.count(of), m.count(of));
                }
            }
        }
    }

    private record Cloth(int water, int wide, int cloth) { }

    private record Place(int room, int wind) { }

    private record Day(int[] said, int was) { }

    /** What an image keeps; a new one is made for each thing foretold. */
    private static final class Now {
        int step, damp;
        int[] water = new int[0], age = new int[0], place = new int[0];
        boolean[] smells = new boolean[0];

        Now twin() {
            Now twin = new Now();
            twin.step = step;
            twin.damp = damp;
            twin.water = water.clone();
            twin.age = age.clone();
            twin.place = place.clone();
            twin.smells = smells.clone();
            return twin;
        }
    }

    private static final class Fault extends Exception {
        private static final long serialVersionUID = 1;
        final int place;

        Fault(int place) {
            this.place = place;
        }
    }

    private static final class Model {
        final StringBuilder text = new StringBuilder();
        List<Cloth> pieces = new ArrayList<>();
        List<Place> spots = new ArrayList<>();
        List<Integer> steps = new ArrayList<>();
        final List<Day> days = new ArrayList<>();
        Now now = new Now();
        final Now[] images = new Now[2];
        long trace = 0;

        boolean out(int number, int least, int most) {
            return number < least || number > most;
        }

        boolean noPiece(int i) {
            return out(i, 0, pieces.size() - 1);
        }

        int type(long v, int n) {
            if (out(n, 1, 8)) return BAD;
            if (text.length() + n > 300) return FULL;
            byte[] all = BigInteger.valueOf(v).toByteArray();
            for (int at = 8 - n; at < 8; at++) {
                int from = at - (8 - all.length);
                text.append((char) (from >= 0 ? all[from] & 255 : v < 0 ? 255 : 0));
            }
            return text.length();
        }

        int clear() {
            int had = text.length();
            text.setLength(0);
            return had;
        }

        int day() {
            List<Cloth> newPieces = new ArrayList<>();
            List<Place> newSpots = new ArrayList<>();
            List<Integer> newSteps = new ArrayList<>();
            int items = 0;
            try {
                Matcher tokens = Pattern.compile(" *([a-z]+|[0-9]+|[^ ]|$)", Pattern.DOTALL).matcher(text);
                while (true) {
                    String word = token(tokens);
                    if (word.isEmpty()) break;
                    int at = tokens.start(1);
                    if (word.equals("piece") && newPieces.size() < 6) {
                        newPieces.add(new Cloth(number(tokens, 1, 99), number(tokens, 1, 9), number(tokens, 1, 3)));
                    } else if (word.equals("spot") && newSpots.size() < 5) {
                        newSpots.add(new Place(number(tokens, 1, 9), number(tokens, 0, 9)));
                    } else if (word.equals("sun") || word.equals("rain")) {
                        int force = number(tokens, word.equals("sun") ? 0 : 1, 9);
                        int more = number(tokens, 1, 24 - newSteps.size());
                        for (int n = 0; n < more; n++) newSteps.add(word.equals("sun") ? force : -force);
                    } else {
                        throw new Fault(at);
                    }
                    if (!token(tokens).equals(";")) throw new Fault(tokens.start(1));
                    items++;
                }
            } catch (Fault fault) {
                return -10 - fault.place;
            }
            pieces = newPieces;
            spots = newSpots;
            steps = newSteps;
            text.setLength(0);
            images[0] = images[1] = null;
            anew();
            return items;
        }

        String token(Matcher tokens) {
            return tokens.find() ? tokens.group(1) : "";
        }

        int number(Matcher tokens, int least, int most) throws Fault {
            String digits = token(tokens);
            if (!digits.matches("0|[1-9][0-9]?")) throw new Fault(tokens.start(1));
            int number = Integer.parseInt(digits);
            if (out(number, least, most)) throw new Fault(tokens.start(1));
            return number;
        }

        int anew() {
            int was = now.step;
            now = new Now();
            now.water = pieces.stream().mapToInt(Cloth::water).toArray();
            now.age = new int[pieces.size()];
            now.smells = new boolean[pieces.size()];
            now.place = new int[pieces.size()];
            Arrays.fill(now.place, 9);
            return was;
        }

        int piece(int i, int what) {
            if (noPiece(i) || out(what, 0, 5)) return BAD;
            return new int[] {now.water[i], pieces.get(i).wide, pieces.get(i).cloth, now.age[i],
                now.smells[i] ? 1 : 0, now.place[i]}[what];
        }

        int at(Now then, int k) {
            for (int i = 0; i < then.place.length; i++) if (then.place[i] == k) return i;
            return NONE;
        }

        int spot(int k, int what) {
            if (out(k, 0, spots.size() - 1) || out(what, 0, 2)) return BAD;
            return new int[] {spots.get(k).room, spots.get(k).wind, at(now, k)}[what];
        }

        int sky(int step) {
            return out(step, 0, 99) ? NO : step < steps.size() ? steps.get(step) : 0;
        }

        int hang(int i, int k) {
            if (noPiece(i) || out(k, 0, spots.size() - 1)) return BAD;
            if (at(now, k) != NONE || pieces.get(i).wide > spots.get(k).room) return STATE;
            now.place[i] = k;
            return 1;
        }

        int howManyAt(int place) {
            return (int) Arrays.stream(now.place).filter(p -> p == place).count();
        }

        int rack(int i) {
            if (noPiece(i)) return BAD;
            if (now.place[i] == 8) return STATE;
            if (howManyAt(8) == 3) return FULL;
            now.place[i] = 8;
            return howManyAt(8);
        }

        int basket(int i) {
            if (noPiece(i)) return BAD;
            if (now.place[i] == 9) return STATE;
            now.place[i] = 9;
            return 1;
        }

        int step(Now then) {
            int sun = then.step < steps.size() ? steps.get(then.step) : 0;
            int lost = 0;
            for (int i = 0; i < pieces.size(); i++) {
                if (then.place[i] < 5 && sun >= 0) {
                    int dries = (sun + spots.get(then.place[i]).wind) * pieces.get(i).cloth - then.damp;
                    if (dries < 0) dries = 0;
                    if (dries > then.water[i]) dries = then.water[i];
                    then.water[i] -= dries;
                    lost += dries;
                }
                if (then.place[i] < 5 && sun < 0) {
                    then.water[i] -= sun * pieces.get(i).wide;
                    if (then.water[i] > pieces.get(i).water * 2) then.water[i] = pieces.get(i).water * 2;
                }
                if (then.place[i] == 8 && then.water[i] > 0) then.water[i]--;
                then.age[i]++;
                if (then.water[i] == 0) then.age[i] = 0;
                then.smells[i] |= then.age[i] > 11;
            }
            then.damp = (then.damp >> 1) + (lost >> 3);
            then.step++;
            return lost;
        }

        int go(int n) {
            if (out(n, 1, 99)) return BAD;
            if (now.step == 99) return STATE;
            int lost = 0;
            while (n-- > 0 && now.step != 99) lost += step(now);
            return lost;
        }

        int now(int what) {
            int smelling = 0;
            for (boolean smells : now.smells) if (smells) smelling++;
            switch (what) {
                case 0: return now.step;
                case 1: return now.damp;
                case 2: return Arrays.stream(now.water).sum();
                case 3: return (int) Arrays.stream(now.place).filter(p -> p < 5).count();
                case 4: return (int) Arrays.stream(now.water).filter(w -> w == 0).count();
                case 5: return smelling;
                default: return BAD;
            }
        }

        /** NOW, and all that is behind 1 .. 99 steps. */
        Now[] ahead() {
            Now[] all = new Now[100];
            all[0] = now.twin();
            for (int n = 1; n < 100; n++) {
                all[n] = all[n - 1].twin();
                step(all[n]);
            }
            return all;
        }

        int when(int i) {
            return damp(i, 0, 0, 0);
        }

        int damp(int i, int a, int b, int what) {
            if (noPiece(i) || out(a, 0, 99) || out(b, 0, 99) || b < a || out(what, 0, 1)) return BAD;
            Now[] all = ahead();
            int first = NONE, last = NONE;
            for (int n = 99; n >= 0; n--) {
                if (all[n].water[i] >= a && all[n].water[i] <= b) {
                    first = n;
                    if (last == NONE) last = n;
                }
            }
            return what == 0 ? first : last;
        }

        /** All ways by numbers of base 6: the digit 0 is the basket, k + 1 is spot k. */
        int where(int n, int i) {
            if (out(n, 1, 24) || i != -1 && noPiece(i)) return BAD;
            int ways = 1;
            for (int j = 0; j < pieces.size(); j++) ways *= spots.size() + 1;
            int least = 0;
            int[] best = null;
            for (int way = 0; way < ways; way++) {
                int[] place = way(way);
                if (place == null) continue;
                Now then = now.twin();
                then.place = place;
                for (int s = 0; s < n; s++) step(then);
                int water = Arrays.stream(then.water).sum();
                if (best == null || water < least) {
                    best = place;
                    least = water;
                }
            }
            return i == -1 ? least : best[i];
        }

        int[] way(int way) {
            int[] place = new int[pieces.size()];
            boolean[] taken = new boolean[5];
            for (int j = pieces.size() - 1; j >= 0; j--) {
                int digit = way % (spots.size() + 1);
                way /= spots.size() + 1;
                place[j] = digit == 0 ? 9 : digit - 1;
                if (digit == 0) continue;
                if (taken[digit - 1] || pieces.get(j).wide > spots.get(digit - 1).room) return null;
                taken[digit - 1] = true;
            }
            return place;
        }

        int order(int rain, int k) {
            if (out(rain, 1, 9) || out(k, -1, 5)) return BAD;
            List<Integer> hung = new ArrayList<>();
            for (int i = 0; i < pieces.size(); i++) if (now.place[i] < 5) hung.add(i);
            List<List<Integer>> orders = new ArrayList<>();
            allOrders(hung, new ArrayList<>(), orders);
            int least = 0;
            List<Integer> best = null;
            for (List<Integer> order : orders) {
                int water = rainedOn(order, rain);
                if (best == null || water < least) {
                    best = order;
                    least = water;
                }
            }
            return k == -1 ? least : k < best.size() ? best.get(k) : NONE;
        }

        void allOrders(List<Integer> left, List<Integer> begun, List<List<Integer>> all) {
            if (left.isEmpty()) all.add(new ArrayList<>(begun));
            for (Integer i : left) {
                List<Integer> less = new ArrayList<>(left);
                less.remove(i);
                begun.add(i);
                allOrders(less, begun, all);
                begun.remove(begun.size() - 1);
            }
        }

        int rainedOn(List<Integer> order, int rain) {
            int[] water = now.water.clone();
            List<Integer> hanging = new ArrayList<>(order);
            for (Integer taken : order) {
                hanging.remove(taken);
                for (int i : hanging) {
                    water[i] = Math.min(water[i] + rain * pieces.get(i).wide, 2 * pieces.get(i).water);
                }
            }
            return Arrays.stream(water).sum();
        }

        long odds(int a, int b, int what) {
            if (out(a, 0, 9) || out(b, 1, 9) || a > b || out(what, 0, 1)) return BAD;
            if (now(3) == 0) return STATE;
            Now[] all = ahead();
            int needed = -1;
            for (int n = 0; n < 100 && needed < 0; n++) {
                boolean dry = true;
                for (int i = 0; i < pieces.size(); i++) dry &= now.place[i] > 5 || all[n].water[i] == 0;
                if (dry) needed = n;
            }
            boolean rain = false;
            for (int n = 0; n < needed; n++) rain |= now.step + n < steps.size() && steps.get(now.step + n) < 0;
            if (needed < 0 || rain) return what == 0 ? 0 : 1;
            if (needed > 18) return STATE;
            BigInteger upper = BigInteger.valueOf(b - a).pow(needed), lower = BigInteger.valueOf(b).pow(needed);
            return (what == 0 ? upper : lower).divide(upper.gcd(lower)).longValueExact();
        }

        int roomFor(int k) {
            if (out(k, 1, 5)) return BAD;
            Now[] all = ahead();
            for (int n = 0; n < 100; n++) {
                int free = 0;
                for (int s = 0; s < spots.size(); s++) {
                    int i = at(all[n], s);
                    if (i == NONE || all[n].water[i] == 0) free++;
                }
                if (free >= k) return n;
            }
            return NONE;
        }

        int pegs() {
            int pegs = 0;
            for (int s = 0; s < spots.size(); s++) {
                int i = at(now, s);
                if (i == NONE) continue;
                pegs += 1 + pieces.get(i).wide * spots.get(s).wind / 9;
                if (at(now, s + 1) != NONE && s + 1 < spots.size()) pegs--;
            }
            return pegs;
        }

        int coins(int n) {
            if (out(n, 0, 24)) return BAD;
            int coins = 0;
            for (int water : ahead()[n].water) {
                for (int left = water; left > 0; left -= 20) coins++;
            }
            return coins;
        }

        int held(int box, int west, int was) {
            if (out(box, 0, 1) || out(west, 0, 1) || out(was, 0, 1)) return BAD;
            if (days.size() == 30) return FULL;
            days.add(new Day(new int[] {box, west}, was));
            return days.size();
        }

        int right(int who) {
            if (out(who, 0, 1)) return BAD;
            return (int) days.stream().filter(d -> d.said[who] == d.was).count();
        }

        int better() {
            return days.isEmpty() ? NONE : right(0) >= right(1) ? 0 : 1;
        }

        int trust(int who, int what) {
            if (out(who, 0, 1) || out(what, 0, 1)) return BAD;
            long said = days.stream().filter(d -> d.said[who] == 1).count();
            long came = days.stream().filter(d -> d.said[who] == 1 && d.was == 1).count();
            if (said == 0) return STATE;
            BigInteger common = BigInteger.valueOf(said).gcd(BigInteger.valueOf(came));
            return BigInteger.valueOf(what == 0 ? came : said).divide(common).intValueExact();
        }

        int mark(int kind, int i) {
            if (out(kind, 0, 5) || noPiece(i)) return NO;
            trace += new int[] {1, 11, 101, 1011, 10101, 100001}[kind];
            int water = now.water[i];
            Cloth told = pieces.get(i);
            return new int[] {water, 2 * water, water - told.cloth, 2 * water + told.wide,
                water - told.cloth + now.age[i], water - now.step}[kind];
        }

        int keep(int image) {
            if (out(image, 0, 1)) return BAD;
            images[image] = now.twin();
            return now.step;
        }

        int back(int image) {
            if (out(image, 0, 1)) return BAD;
            if (images[image] == null) return STATE;
            now = images[image].twin();
            return now.step;
        }

        int count(int what) {
            if (out(what, 0, 5)) return BAD;
            return new int[] {pieces.size(), spots.size(), steps.size(), howManyAt(8), days.size(),
                text.length()}[what];
        }
    }
}
