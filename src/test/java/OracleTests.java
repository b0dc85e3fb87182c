import java.util.ArrayList;
import java.util.Arrays;
import java.util.HashMap;
import java.util.HashSet;
import java.util.List;
import java.util.Map;
import java.util.Random;
import java.util.Set;
import java.util.regex.Matcher;
import java.util.regex.Pattern;

/**
 * Long runs of chosen-at-random calls, each answer held against a slow second house that tries
 * everything: all ways, all orders of trucks, all plans of the fans, all blends.
 */
public final class OracleTests {
    private static int wrong = 0;
    private static long calls = 0;

    public static void main(String[] args) {
        for (int seed = 0; seed < 400; seed++) {
            run(seed, new Grain(new Random(seed)));
            run(seed, new Trucks(new Random(seed)));
            run(seed, new Fans(new Random(seed)));
            run(seed, new Blends(new Random(seed)));
            run(seed, new Lists(new Random(seed)));
            run(seed, new Anything(new Random(seed)));
        }
        System.out.println(calls + " calls, " + wrong + " answers are not as due");
        if (wrong != 0) {
            System.exit(1);
        }
    }

    private static void run(int seed, Player player) {
        player.play();
        calls += player.n;
        if (player.fault != null) {
            wrong++;
            if (wrong < 20) {
                System.out.println(player.getClass().getSimpleName() + " seed " + seed + ": " + player.fault);
            }
        }
    }

    /** Plays calls on both houses until they disagree. */
    private abstract static class Player {
        final GrainHouse x = new GrainHouse();
        final SlowHouse y = new SlowHouse();
        final Random r;
        int n = 0;
        int most = 512;
        String fault = null;

        Player(Random r) {
            this.r = r;
        }

        abstract void turn();

        void play() {
            for (int i = 0; i < most && n < most && fault == null; i++) {
                turn();
            }
        }

        void same(String call, long got, long want) {
            n++;
            if (got != want && fault == null) {
                fault = "call " + n + ", " + call + " answered " + got + ", due is " + want;
            }
        }

        void same(String call, boolean got, boolean want) {
            same(call, got ? 1 : 0, want ? 1 : 0);
        }

        /** A number of the range, now and then one just or far outside it. */
        int pick(int least, int most) {
            switch (r.nextInt(40)) {
                case 0:
                    return least - 1;
                case 1:
                    return most + 1;
                case 2:
                    return r.nextBoolean() ? Integer.MIN_VALUE : Integer.MAX_VALUE;
                case 3:
                    return least;
                case 4:
                    return most;
                default:
                    return least + r.nextInt(most - least + 1);
            }
        }

        void holds(int bin, int kg) {
            same("holds(" + bin + ", " + kg + ")", x.holds(bin, kg), y.holds(bin, kg));
        }

        void load(int farmer, int kind, int kg, int moist, int bin) {
            same("load(" + farmer + ", " + kind + ", " + kg + ", " + moist + ", " + bin + ")",
                    x.load(farmer, kind, kg, moist, bin), y.load(farmer, kind, kg, moist, bin));
        }

        void leg(int a, int b, int minutes) {
            same("leg(" + a + ", " + b + ", " + minutes + ")", x.leg(a, b, minutes), y.leg(a, b, minutes));
        }

        void cleaning(int minutes) {
            same("cleaning(" + minutes + ")", x.cleaning(minutes), y.cleaning(minutes));
        }

        void way(int kind, int a, int b) {
            same("way(" + kind + ", " + a + ", " + b + ")", x.way(kind, a, b), y.way(kind, a, b));
            for (int i = -1; i < 6; i++) {
                same("wayLeg(" + kind + ", " + a + ", " + b + ", " + i + ")",
                        x.wayLeg(kind, a, b, i), y.wayLeg(kind, a, b, i));
            }
        }

        void move(int a, int b, int kg) {
            same("move(" + a + ", " + b + ", " + kg + ")", x.move(a, b, kg), y.move(a, b, kg));
        }

        void dry(int a, int b, int kg, int moist) {
            same("dry(" + a + ", " + b + ", " + kg + ", " + moist + ")",
                    x.dry(a, b, kg, moist), y.dry(a, b, kg, moist));
        }

        void ship(int bin, int kg) {
            same("ship(" + bin + ", " + kg + ")", x.ship(bin, kg), y.ship(bin, kg));
        }

        void seeBin(int bin) {
            for (int what = 0; what < 4; what++) {
                same("binOf(" + bin + ", " + what + ")", x.binOf(bin, what), y.binOf(bin, what));
            }
            same("dryIn(" + bin + ")", x.dryIn(bin), y.dryIn(bin));
        }

        void truck(int minute, int kind, int weight) {
            same("truck(" + minute + ", " + kind + ", " + weight + ")",
                    x.truck(minute, kind, weight), y.truck(minute, kind, weight));
        }

        void pit(int unload, int change) {
            same("pit(" + unload + ", " + change + ")", x.pit(unload, change), y.pit(unload, change));
        }

        void rush() {
            same("rush()", x.rush(), y.rush());
        }

        void served(int i, int what) {
            same("served(" + i + ", " + what + ")", x.served(i, what), y.served(i, what));
        }

        void gone() {
            same("gone()", x.gone(), y.gone());
        }

        void hour(int h, boolean dry, int cost) {
            same("hour(" + h + ", " + dry + ", " + cost + ")", x.hour(h, dry, cost), y.hour(h, dry, cost));
        }

        void needs(int bin, int hours, int ahead) {
            same("needs(" + bin + ", " + hours + ", " + ahead + ")",
                    x.needs(bin, hours, ahead), y.needs(bin, hours, ahead));
        }

        void fans() {
            same("fans()", x.fans(), y.fans());
        }

        void fansOf(int bin) {
            same("fansOf(" + bin + ")", x.fansOf(bin), y.fansOf(bin));
        }

        void blend(int kind, int set, int q, int moist) {
            same("blend(" + kind + ", " + set + ", " + q + ", " + moist + ")",
                    x.blend(kind, set, q, moist), y.blend(kind, set, q, moist));
        }

        void blended(int bin) {
            same("blended(" + bin + ")", x.blended(bin), y.blended(bin));
        }

        void feed(int a, int b, int c, int d, int e) {
            same("feed(" + a + ", " + b + ", " + c + ", " + d + ", " + e + ")",
                    x.feed(a, b, c, d, e), y.feed(a, b, c, d, e));
        }

        void end(int at) {
            same("end(" + at + ")", x.end(at), y.end(at));
        }

        void list() {
            same("list()", x.list(), y.list());
        }

        void fault(int what) {
            same("fault(" + what + ")", x.fault(what), y.fault(what));
        }

        void worth(int load) {
            same("worth(" + load + ")", x.worth(load), y.worth(load));
        }

        void account(int farmer, int what) {
            same("account(" + farmer + ", " + what + ")", x.account(farmer, what), y.account(farmer, what));
        }

        void about(int what) {
            same("about(" + what + ")", x.about(what), y.about(what));
        }

        /** The text as feeds and one end(). */
        void write(String text) {
            int had = (int) y.about(9);
            StringBuilder padded = new StringBuilder(text);
            while (padded.length() % 20 != 0) {
                padded.append("x7; @".charAt(r.nextInt(5)));
            }
            for (int i = 0; i < padded.length(); i += 20) {
                feed(four(padded, i), four(padded, i + 4), four(padded, i + 8), four(padded, i + 12),
                        four(padded, i + 16));
            }
            end(had + text.length());
        }

        private static int four(CharSequence text, int at) {
            int sum = 0;
            for (int i = 0; i < 4; i++) {
                sum = sum << 8 | text.charAt(at + i) & 255;
            }
            return sum;
        }
    }

    private static final class Grain extends Player {
        private final int mostMinutes = 1 + r.nextInt(8);
        private final int kinds = 1 + r.nextInt(3);

        Grain(Random r) {
            super(r);
        }

        private int node() {
            int sort = r.nextInt(3);
            return sort == 0 ? pick(0, 2) : sort == 1 ? pick(8, 11) : pick(0, 11);
        }

        @Override
        void turn() {
            int a = r.nextInt(3) == 0 ? pick(0, 7) : r.nextInt(3);
            int b = r.nextInt(3) == 0 ? pick(0, 7) : r.nextInt(3);
            int had = Math.max(1, a >= 0 && a < 8 ? y.binOf(a, 1) : 1);
            int kg = r.nextInt(4) == 0 ? had : pick(1, had);
            int moist = Math.max(1, a >= 0 && a < 8 ? y.binOf(a, 2) : 1);
            switch (r.nextInt(14)) {
                case 0:
                    holds(a, r.nextBoolean() ? had : pick(1, 500000));
                    break;
                case 1:
                case 2:
                    int limit = r.nextBoolean() ? 40000 : 9;
                    load(pick(0, 9), pick(0, kinds), pick(1, limit), pick(0, 400), a);
                    break;
                case 3:
                case 4:
                case 5:
                    leg(node(), node(), r.nextInt(9) == 0 ? pick(1, 60) : 1 + r.nextInt(mostMinutes));
                    break;
                case 6:
                    cleaning(r.nextBoolean() ? pick(0, 99) : r.nextInt(4));
                    break;
                case 7:
                    way(pick(0, kinds), a, b);
                    break;
                case 8:
                case 9:
                    move(a, b, kg);
                    break;
                case 10:
                case 11:
                    dry(a, b, kg, r.nextBoolean() ? pick(0, 300) : pick(0, moist));
                    break;
                case 12:
                    ship(a, kg);
                    break;
                default:
                    seeBin(a);
                    about(pick(0, 13));
                    break;
            }
        }
    }

    private static final class Trucks extends Player {
        private final int span = 1 + r.nextInt(120);

        Trucks(Random r) {
            super(r);
            // the slow house tries 5040 orders a time, so few turns are enough
            most = 120;
        }

        @Override
        void turn() {
            switch (r.nextInt(8)) {
                case 0:
                    if (r.nextInt(3) == 0) {
                        gone();
                    }
                    break;
                case 1:
                    pit(pick(1, r.nextBoolean() ? 60 : 5), pick(0, r.nextBoolean() ? 60 : 5));
                    break;
                case 2:
                    rush();
                    served(pick(0, 6), pick(0, 1));
                    break;
                case 3:
                    for (int i = 0; i < 7; i++) {
                        served(i, 0);
                        served(i, 1);
                    }
                    about(2);
                    break;
                default:
                    truck(r.nextInt(5) == 0 ? pick(0, 999) : r.nextInt(span), pick(0, 3),
                            r.nextBoolean() ? 1 + r.nextInt(2) : pick(1, 9));
                    break;
            }
        }
    }

    private static final class Fans extends Player {
        private final int prices = 1 + r.nextInt(4);
        private final int mostNeed = 1 + r.nextInt(4);

        Fans(Random r) {
            super(r);
            most = 150;
        }

        @Override
        void turn() {
            if (n == 0) {
                for (int h = 0; h < 12; h++) {
                    hour(h, r.nextInt(3) != 0, r.nextInt(prices));
                }
                needs(-1, 1 + r.nextInt(4), 77);
            }
            switch (r.nextInt(6)) {
                case 0:
                    hour(pick(0, 11), r.nextInt(3) != 0, r.nextInt(9) == 0 ? pick(0, 99) : r.nextInt(prices));
                    break;
                case 1:
                    if (r.nextInt(3) == 0) {
                        needs(-1, pick(1, 8), r.nextInt());
                    }
                    break;
                case 2:
                case 3:
                    needs(pick(0, 7), r.nextInt(12) == 0 ? pick(0, 12) : r.nextInt(mostNeed + 1),
                            r.nextBoolean() ? pick(0, 12) : 6 + r.nextInt(7));
                    break;
                default:
                    fans();
                    for (int bin = -1; bin < 9; bin++) {
                        fansOf(bin);
                    }
                    break;
            }
        }
    }

    private static final class Blends extends Player {
        private final int kinds = r.nextInt(2);
        private final int grain = r.nextBoolean() ? 1 : 100;

        Blends(Random r) {
            super(r);
            most = 200;
        }

        @Override
        void turn() {
            switch (r.nextInt(5)) {
                case 0:
                case 1:
                    int moist = pick(0, 400) / grain * grain;
                    load(0, pick(0, kinds), r.nextBoolean() ? pick(1, 9000) : 1000 * (1 + r.nextInt(9)), moist,
                            pick(0, 7));
                    break;
                case 2:
                    int bin = r.nextInt(8);
                    ship(bin, pick(1, Math.max(1, y.binOf(bin, 1))));
                    break;
                default:
                    int most = r.nextInt(3) == 0 ? 1000 : 450;
                    blend(pick(0, kinds), pick(0, 255) & pick(0, 255), pick(1, 20), pick(0, most));
                    for (int b = 0; b < 8; b++) {
                        blended(b);
                    }
                    break;
            }
        }
    }

    private static final class Lists extends Player {
        Lists(Random r) {
            super(r);
        }

        private String number(int least, int most) {
            int value = r.nextInt(15) == 0 ? pick(least, most) : least + r.nextInt(most - least + 1);
            String text = Integer.toString(Math.abs(value % 1000000));
            if (r.nextInt(30) == 0) {
                text = "0".repeat(1 + r.nextInt(12)) + text;
            }
            return r.nextInt(60) == 0 ? text + "4294967296" : text;
        }

        private String blanks(int least) {
            return r.nextInt(8) == 0 ? " ".repeat(least + r.nextInt(3)) : " ".repeat(least);
        }

        private String clause() {
            String head = r.nextBoolean()
                    ? "price" + blanks(r.nextInt(2)) + number(0, 3) + blanks(1) + number(0, 9999)
                    : "dock" + blanks(r.nextInt(2)) + number(0, 400) + blanks(1) + number(1, 50);
            return head + blanks(0) + ";" + blanks(0);
        }

        private String text() {
            StringBuilder text = new StringBuilder();
            int most = r.nextInt(14);
            for (int i = 0; i < most; i++) {
                text.append(r.nextInt(5) == 0 ? clause() : i < 9 && r.nextBoolean() ? "dock" + 13 * i + " 9;" : clause());
            }
            if (r.nextInt(3) == 0 && text.length() > 0) {
                String signs = " ;09azAZpricedock@[`{/:\u0000\u00ff";
                text.setCharAt(r.nextInt(text.length()), signs.charAt(r.nextInt(signs.length())));
            }
            if (r.nextInt(6) == 0) {
                text.setLength(r.nextInt(text.length() + 1));
            }
            if (text.length() > 200) {
                text.setLength(200);
            }
            return text.toString();
        }

        @Override
        void turn() {
            switch (r.nextInt(6)) {
                case 0:
                    load(pick(0, 9), pick(0, 3), pick(1, 40000), pick(0, 400), r.nextInt(8));
                    break;
                case 1:
                    worth(pick(0, Math.max(0, (int) y.about(0) - 1)));
                    account(pick(0, 9), pick(0, 2));
                    about(pick(0, 13));
                    break;
                case 2:
                    feed(r.nextInt(), r.nextInt(), r.nextInt(), r.nextInt(), r.nextInt());
                    end(r.nextInt(4) == 0 ? pick(0, 200) : 0);
                    break;
                default:
                    write(text());
                    list();
                    fault(0);
                    fault(1);
                    fault(pick(0, 1));
                    worth(pick(0, Math.max(0, (int) y.about(0) - 1)));
                    account(pick(0, 9), 1);
                    break;
            }
        }
    }

    /** All calls with all sorts of numbers: nothing may be thrown. */
    private static final class Anything extends Player {
        Anything(Random r) {
            super(r);
        }

        private int any() {
            return r.nextInt(6) == 0 ? r.nextInt() : pick(-1, 12);
        }

        @Override
        void turn() {
            switch (r.nextInt(30)) {
                case 0: holds(any(), r.nextBoolean() ? any() : pick(1, 500000)); break;
                case 1: case 2: load(any(), any() & 3, pick(1, 40000), pick(0, 400), any()); break;
                case 3: case 4: leg(any(), any(), any()); break;
                case 5: cleaning(any()); break;
                case 6: way(any(), any(), any()); break;
                case 7: move(any(), any(), any()); break;
                case 8: dry(any(), any(), any(), any()); break;
                case 9: ship(any(), any()); break;
                case 10: seeBin(any()); same("binOf", x.binOf(any() & 7, 4), -1); break;
                case 11: if (y.about(2) < 5) { truck(any(), any(), any()); } break;
                case 12: pit(any(), any()); break;
                case 13: rush(); break;
                case 14: served(any(), any()); break;
                case 15: gone(); break;
                case 16: hour(any(), r.nextBoolean(), any()); break;
                case 17: needs(any(), any() & 1, any()); break;
                case 18: fans(); break;
                case 19: fansOf(any()); break;
                case 20: blend(any(), pick(0, 255), any(), pick(0, 1000)); break;
                case 21: blended(any()); break;
                case 22: feed(any(), any(), any(), any(), any()); break;
                case 23: end(any()); break;
                case 24: list(); break;
                case 25: fault(any()); break;
                case 26: worth(any()); break;
                case 27: account(any(), any()); break;
                default: about(pick(0, 13)); break;
            }
        }
    }

    /** The document in its plainest form, without a thought of speed. */
    private static final class SlowHouse {
        final int[] kind = new int[8];
        final long[] kg = new long[8];
        final long[] dry = new long[8];
        final int[] holds = new int[8];
        final List<int[]> loads = new ArrayList<>();
        final List<int[]> legs = new ArrayList<>();
        final List<int[]> trucks = new ArrayList<>();
        int cleaning = 10;
        long used = 0;
        long water = 0;
        long shipped = 0;
        long shippedDry = 0;
        int unload = 10;
        int change = 5;
        final boolean[] dryHour = new boolean[12];
        final int[] cost = new int[12];
        final int[] hours = new int[8];
        final int[] ahead = new int[8];
        int power = 2;
        int[] blended = null;
        String tape = "";
        Map<Integer, Integer> prices = new HashMap<>();
        Map<Integer, Integer> docks = new HashMap<>();
        int[] fault = null;

        SlowHouse() {
            Arrays.fill(holds, 100000);
            Arrays.fill(dryHour, true);
            Arrays.fill(cost, 1);
            Arrays.fill(ahead, 12);
        }

        private static boolean in(long value, long least, long most) {
            return least <= value && value <= most;
        }

        boolean holds(int bin, int amount) {
            if (!in(bin, 0, 7) || !in(amount, 1, 500000) || kg[bin] > amount) {
                return false;
            }
            holds[bin] = amount;
            return true;
        }

        private boolean fits(int bin, int ofKind, long amount) {
            return in(bin, 0, 7) && (kg[bin] == 0 || kind[bin] == ofKind) && kg[bin] + amount <= holds[bin];
        }

        private void put(int bin, int ofKind, long amount, long dryness) {
            kind[bin] = ofKind;
            kg[bin] += amount;
            dry[bin] += dryness;
        }

        private long take(int bin, long amount) {
            long gone = amount == kg[bin] ? dry[bin] : dry[bin] * amount / kg[bin];
            kg[bin] -= amount;
            dry[bin] -= gone;
            return gone;
        }

        int load(int farmer, int ofKind, int amount, int moist, int bin) {
            boolean told = in(farmer, 0, 9) && in(ofKind, 0, 3) && in(amount, 1, 40000) && in(moist, 0, 400);
            if (!told || loads.size() == 100 || !fits(bin, ofKind, amount)) {
                return -1;
            }
            put(bin, ofKind, amount, amount * (1000L - moist));
            loads.add(new int[] {farmer, ofKind, moist, amount * (1000 - moist)});
            return loads.size() - 1;
        }

        int leg(int a, int b, int minutes) {
            if (!in(a, 0, 11) || !in(b, 0, 11) || a == b || !in(minutes, 1, 60) || legs.size() == 20) {
                return -1;
            }
            legs.add(new int[] {a, b, minutes, -1});
            return legs.size() - 1;
        }

        boolean cleaning(int minutes) {
            if (in(minutes, 0, 99)) {
                cleaning = minutes;
                return true;
            }
            return false;
        }

        private int costOf(List<Integer> way, int ofKind) {
            int sum = 0;
            for (int number : way) {
                int[] leg = legs.get(number);
                sum += leg[2] + (leg[3] != -1 && leg[3] != ofKind ? cleaning : 0);
            }
            return sum;
        }

        private void allWays(int at, int goal, Set<Integer> met, List<Integer> way, List<List<Integer>> all) {
            for (int i = 0; i < legs.size(); i++) {
                int[] leg = legs.get(i);
                if (leg[0] != at && leg[1] != at) {
                    continue;
                }
                int to = leg[0] + leg[1] - at;
                way.add(i);
                if (to == goal) {
                    all.add(new ArrayList<>(way));
                } else if (to >= 8 && met.add(to)) {
                    allWays(to, goal, met, way, all);
                    met.remove(to);
                }
                way.remove(way.size() - 1);
            }
        }

        private List<Integer> theWay(int ofKind, int a, int b) {
            if (!in(ofKind, 0, 3) || !in(a, 0, 7) || !in(b, 0, 7) || a == b) {
                return null;
            }
            List<List<Integer>> all = new ArrayList<>();
            allWays(a, b, new HashSet<>(), new ArrayList<>(), all);
            List<Integer> best = null;
            for (List<Integer> way : all) {
                if (best == null || ahead(way, best, ofKind)) {
                    best = way;
                }
            }
            return best;
        }

        private boolean ahead(List<Integer> one, List<Integer> other, int ofKind) {
            int by = costOf(one, ofKind) - costOf(other, ofKind);
            if (by == 0) {
                by = one.size() - other.size();
            }
            for (int i = 0; by == 0 && i < one.size(); i++) {
                by = one.get(i) - other.get(i);
            }
            return by < 0;
        }

        int way(int ofKind, int a, int b) {
            List<Integer> way = theWay(ofKind, a, b);
            return way == null ? -1 : costOf(way, ofKind);
        }

        int wayLeg(int ofKind, int a, int b, int i) {
            List<Integer> way = theWay(ofKind, a, b);
            return way == null || !in(i, 0, way.size() - 1) ? -1 : way.get(i);
        }

        private int go(List<Integer> way, int ofKind) {
            int sum = costOf(way, ofKind);
            for (int number : way) {
                legs.get(number)[3] = ofKind;
            }
            used += sum;
            return sum;
        }

        int move(int a, int b, int amount) {
            if (!in(a, 0, 7) || !in(amount, 1, kg[a]) || !fits(b, kind[a], amount)) {
                return -1;
            }
            List<Integer> way = theWay(kind[a], a, b);
            if (way == null) {
                return -1;
            }
            put(b, kind[a], amount, take(a, amount));
            return go(way, kind[a]);
        }

        int dry(int a, int b, int amount, int moist) {
            if (!in(a, 0, 7) || !in(amount, 1, kg[a]) || !in(moist, 0, 300) || moist >= binOf(a, 2)) {
                return -1;
            }
            long come = dry[a] * amount / kg[a] / (1000 - moist);
            List<Integer> way = theWay(kind[a], a, b);
            if (come == 0 || !fits(b, kind[a], come) || way == null) {
                return -1;
            }
            put(b, kind[a], come, take(a, amount));
            water += amount - come;
            go(way, kind[a]);
            return (int) come;
        }

        long ship(int bin, int amount) {
            if (!in(bin, 0, 7) || !in(amount, 1, kg[bin])) {
                return -1;
            }
            long gone = take(bin, amount);
            shipped += amount;
            shippedDry += gone;
            return gone;
        }

        int binOf(int bin, int what) {
            if (!in(bin, 0, 7)) {
                return -1;
            }
            switch (what) {
                case 0: return kg[bin] > 0 ? kind[bin] : -1;
                case 1: return (int) kg[bin];
                case 2: return kg[bin] > 0 ? (int) Math.max(0, 1000 - dry[bin] / kg[bin]) : -1;
                case 3: return holds[bin];
                default: return -1;
            }
        }

        long dryIn(int bin) {
            return in(bin, 0, 7) ? dry[bin] : -1;
        }

        int truck(int minute, int ofKind, int weight) {
            if (!in(minute, 0, 999) || !in(ofKind, 0, 3) || !in(weight, 1, 9) || trucks.size() == 7) {
                return -1;
            }
            trucks.add(new int[] {minute, ofKind, weight});
            return trucks.size() - 1;
        }

        boolean pit(int itsUnload, int itsChange) {
            if (!in(itsUnload, 1, 60) || !in(itsChange, 0, 60)) {
                return false;
            }
            unload = itsUnload;
            change = itsChange;
            return true;
        }

        private int bestWaits;
        private int[] bestOrder;
        private String orderedFor = "";

        private void orders(List<Integer> order) {
            if (order.size() == trucks.size()) {
                int waits = unloadAll(order, null);
                if (bestOrder == null || waits < bestWaits) {
                    bestWaits = waits;
                    bestOrder = order.stream().mapToInt(i -> i).toArray();
                }
                return;
            }
            for (int i = 0; i < trucks.size(); i++) {
                if (!order.contains(i)) {
                    order.add(i);
                    orders(order);
                    order.remove(order.size() - 1);
                }
            }
        }

        private int unloadAll(List<Integer> order, int[] ends) {
            int now = 0;
            int waits = 0;
            for (int i = 0; i < order.size(); i++) {
                int[] truck = trucks.get(order.get(i));
                now = Math.max(now, truck[0]);
                waits += (now - truck[0]) * truck[2];
                if (i > 0 && trucks.get(order.get(i - 1))[1] != truck[1]) {
                    now += change;
                }
                now += unload;
                if (ends != null) {
                    ends[i] = now;
                }
            }
            return waits;
        }

        int rush() {
            StringBuilder state = new StringBuilder().append(unload).append(' ').append(change);
            trucks.forEach(truck -> state.append(Arrays.toString(truck)));
            if (!state.toString().equals(orderedFor)) {
                bestOrder = null;
                orders(new ArrayList<>());
                orderedFor = state.toString();
            }
            return bestWaits;
        }

        int served(int i, int what) {
            if (!in(i, 0, trucks.size() - 1) || !in(what, 0, 1)) {
                return -1;
            }
            rush();
            List<Integer> order = new ArrayList<>();
            for (int truck : bestOrder) {
                order.add(truck);
            }
            int[] ends = new int[7];
            unloadAll(order, ends);
            return what == 0 ? bestOrder[i] : ends[i];
        }

        int gone() {
            int had = trucks.size();
            trucks.clear();
            return had;
        }

        boolean hour(int h, boolean isDry, int itsCost) {
            if (!in(h, 0, 11) || !in(itsCost, 0, 99)) {
                return false;
            }
            dryHour[h] = isDry;
            cost[h] = itsCost;
            return true;
        }

        boolean needs(int bin, int itsHours, int itsAhead) {
            if (bin == -1 && in(itsHours, 1, 8)) {
                power = itsHours;
                return true;
            }
            if (!in(bin, 0, 7) || !in(itsHours, 0, 12) || !in(itsAhead, 0, 12)) {
                return false;
            }
            hours[bin] = itsHours;
            ahead[bin] = itsAhead;
            return true;
        }

        private static final int NO_PLAN = 1000000;
        /** By how many hours: the sets of hours, hour 0 on ahead of off, then hour 1, and so on. */
        private static final List<List<Integer>> SETS = new ArrayList<>();

        static {
            for (int n = 0; n <= 12; n++) {
                SETS.add(new ArrayList<>());
            }
            for (int turned = 4095; turned >= 0; turned--) {
                SETS.get(Integer.bitCount(turned)).add(Integer.reverse(turned) >>> 20);
            }
        }

        private final Map<Long, Integer> cheapest = new HashMap<>();
        private String reckonedFor = "";

        /** The least cost for this bin and those behind it, if hour h has been used by its digit in base 9. */
        private int cheapest(int bin, long usedHours) {
            if (bin == 8) {
                return 0;
            }
            long key = usedHours * 8 + bin;
            Integer known = cheapest.get(key);
            if (known == null) {
                known = NO_PLAN;
                for (int set : SETS.get(hours[bin])) {
                    long then = with(bin, set, usedHours);
                    if (then >= 0) {
                        known = Math.min(known, priceOf(set) + cheapest(bin + 1, then));
                    }
                }
                cheapest.put(key, known);
            }
            return known;
        }

        private int priceOf(int set) {
            int sum = 0;
            for (int h = 0; h < 12; h++) {
                sum += (set >> h & 1) * cost[h];
            }
            return sum;
        }

        private long with(int bin, int set, long usedHours) {
            if (set >> ahead[bin] != 0) {
                return -1;
            }
            long unit = 1;
            long then = usedHours;
            for (int h = 0; h < 12; h++) {
                if ((set >> h & 1) == 1) {
                    if (!dryHour[h] || usedHours / unit % 9 >= power) {
                        return -1;
                    }
                    then += unit;
                }
                unit *= 9;
            }
            return then;
        }

        int fans() {
            String state = Arrays.toString(hours) + Arrays.toString(ahead) + Arrays.toString(cost)
                    + Arrays.toString(dryHour) + power;
            if (!state.equals(reckonedFor)) {
                cheapest.clear();
                reckonedFor = state;
            }
            int least = cheapest(0, 0);
            return least >= NO_PLAN ? -1 : least;
        }

        int fansOf(int bin) {
            if (!in(bin, 0, 7) || fans() == -1) {
                return -1;
            }
            long usedHours = 0;
            for (int b = 0; b < 8; b++) {
                int set = firstSet(b, usedHours);
                if (b == bin) {
                    return set;
                }
                usedHours = with(b, set, usedHours);
            }
            return -1;
        }

        private int firstSet(int bin, long usedHours) {
            int least = cheapest(bin, usedHours);
            for (int set : SETS.get(hours[bin])) {
                long then = with(bin, set, usedHours);
                if (then >= 0 && priceOf(set) + cheapest(bin + 1, then) == least) {
                    return set;
                }
            }
            return -1;
        }

        private long blendDry;
        private int[] blendTons;

        private void blends(List<Integer> from, int[] tons, int i, int rest, int q, int moist) {
            if (i == from.size()) {
                if (rest == 0) {
                    offer(tons, q, moist);
                }
                return;
            }
            int bin = from.get(i);
            for (int n = 0; n <= rest && n * 1000L <= kg[bin]; n++) {
                tons[bin] = n;
                blends(from, tons, i + 1, rest - n, q, moist);
            }
            tons[bin] = 0;
        }

        private void offer(int[] tons, int q, int moist) {
            long sum = 0;
            for (int bin = 0; bin < 8; bin++) {
                sum += tons[bin] == 0 ? 0 : dry[bin] * (tons[bin] * 1000L) / kg[bin];
            }
            if (Math.max(0, 1000 - sum / (q * 1000L)) > moist) {
                return;
            }
            boolean better = blendTons == null || sum < blendDry;
            if (blendTons != null && sum == blendDry) {
                better = Arrays.compare(tons, blendTons) > 0;
            }
            if (better) {
                blendDry = sum;
                blendTons = tons.clone();
            }
        }

        long blend(int ofKind, int set, int q, int moist) {
            if (!in(ofKind, 0, 3) || !in(set, 0, 255) || !in(q, 1, 20) || !in(moist, 0, 1000)) {
                return -1;
            }
            List<Integer> from = new ArrayList<>();
            for (int bin = 0; bin < 8; bin++) {
                if ((set >> bin & 1) == 1 && kg[bin] > 0 && kind[bin] == ofKind) {
                    from.add(bin);
                }
            }
            blendTons = null;
            if (from.isEmpty() || from.size() > 4) {
                return -1;
            }
            blends(from, new int[8], 0, q, q, moist);
            if (blendTons == null) {
                return -1;
            }
            blended = blendTons;
            return blendDry;
        }

        int blended(int bin) {
            return in(bin, 0, 7) && blended != null ? blended[bin] : -1;
        }

        int feed(int... fours) {
            if (tape.length() + 20 > 200) {
                return -1;
            }
            for (int four : fours) {
                tape += "" + (char) (four >>> 24) + (char) (four >>> 16 & 255) + (char) (four >>> 8 & 255)
                        + (char) (four & 255);
            }
            return tape.length();
        }

        int end(int n) {
            if (!in(n, 0, tape.length())) {
                return -1;
            }
            tape = tape.substring(0, n);
            return n;
        }

        private static final Pattern TOKEN = Pattern.compile(" *([a-zA-Z]+|[0-9]+|;|[^ ]|$)", Pattern.DOTALL);
        private Map<Integer, Integer> newPrices;
        private Map<Integer, Integer> newDocks;

        int list() {
            newPrices = new HashMap<>();
            newDocks = new HashMap<>();
            String text = tape;
            tape = "";
            Matcher m = TOKEN.matcher(text);
            List<String> clause = new ArrayList<>();
            int at = 0;
            while (true) {
                m.find(at);
                String token = m.group(1);
                at = m.end();
                if (token.isEmpty() && clause.isEmpty()) {
                    break;
                }
                int bad = faultOf(token, clause);
                if (bad != 0) {
                    fault = new int[] {bad, m.start(1)};
                    return -1;
                }
                clause.add(token);
                if (clause.size() == 4) {
                    Map<Integer, Integer> into = clause.get(0).equals("price") ? newPrices : newDocks;
                    into.put(Integer.parseInt(clause.get(1)), Integer.parseInt(clause.get(2)));
                    clause.clear();
                }
            }
            fault = new int[] {0, -1};
            prices = newPrices;
            docks = newDocks;
            return prices.size() + docks.size();
        }

        private int faultOf(String token, List<String> clause) {
            boolean price = !clause.isEmpty() && clause.get(0).equals("price");
            switch (clause.size()) {
                case 0:
                    if (!token.equals("price") && !token.equals("dock")) {
                        return 1;
                    }
                    return token.equals("dock") && newDocks.size() == 8 ? 4 : 0;
                case 1:
                    if (!token.matches("[0-9]+")) {
                        return 1;
                    }
                    if (!told(token, 0, price ? 3 : 400)) {
                        return 3;
                    }
                    return (price ? newPrices : newDocks).containsKey(Integer.parseInt(token)) ? 2 : 0;
                case 2:
                    if (!token.matches("[0-9]+")) {
                        return 1;
                    }
                    return told(token, price ? 0 : 1, price ? 9999 : 50) ? 0 : 3;
                default:
                    return token.equals(";") ? 0 : 1;
            }
        }

        private static boolean told(String digits, int least, int most) {
            java.math.BigInteger value = new java.math.BigInteger(digits);
            return value.bitLength() < 30 && in(value.intValue(), least, most);
        }

        int fault(int what) {
            return fault == null || !in(what, 0, 1) ? -1 : fault[what];
        }

        int worth(int load) {
            if (!in(load, 0, loads.size() - 1)) {
                return -1;
            }
            int[] l = loads.get(load);
            long whole = (long) l[3] * prices.getOrDefault(l[1], 0) / 1000000;
            int loss = 0;
            for (Map.Entry<Integer, Integer> dock : docks.entrySet()) {
                loss += l[2] > dock.getKey() ? dock.getValue() : 0;
            }
            return (int) (whole - whole * Math.min(100, loss) / 100);
        }

        long account(int farmer, int what) {
            if (!in(farmer, 0, 9) || !in(what, 0, 2)) {
                return -1;
            }
            long[] sums = new long[3];
            for (int i = 0; i < loads.size(); i++) {
                if (loads.get(i)[0] == farmer) {
                    sums[0] += loads.get(i)[3];
                    sums[1] += worth(i);
                    sums[2]++;
                }
            }
            return sums[what];
        }

        long about(int what) {
            long inBins = Arrays.stream(dry).sum();
            long ofLoads = loads.stream().mapToLong(l -> l[3]).sum();
            long[] all = {loads.size(), legs.size(), trucks.size(), used, water, shipped, shippedDry, inBins, ofLoads,
                tape.length(), cleaning, unload, change, power};
            return in(what, 0, 13) ? all[what] : -1;
        }
    }
}
