/**
 * A house for wet grain: bins, legs, trucks, fans, blends and farmers' accounts.
 *
 * Every row is made once with the object and used again, so no call makes an object.
 */
public final class GrainHouse {
    public static final int NONE = -1;

    private static final int KINDS = 4;
    private static final int BINS = 8;
    private static final int FARMERS = 10;
    private static final int MOST_MOIST = 400;

    private final Bins bins = new Bins();
    private final Loads loads = new Loads();
    private final Net net = new Net();
    private final Rush queue = new Rush();
    private final FanPlan plan = new FanPlan();
    private final Blender blender = new Blender();
    private final Tape tape = new Tape();
    private final Reader reader = new Reader();
    private PriceList prices = new PriceList();
    private PriceList spare = new PriceList();
    private long water = 0;
    private long shippedKg = 0;
    private long shippedDry = 0;

    public GrainHouse() {
    }

    public boolean holds(int bin, int kg) {
        if (!isBin(bin) || !within(kg, 1, 500000) || bins.kg[bin] > kg) {
            return false;
        }
        bins.room[bin] = kg;
        return true;
    }

    public int load(int farmer, int kind, int kg, int moist, int bin) {
        if (!isFarmer(farmer) || !isKind(kind) || !within(kg, 1, 40000)) {
            return NONE;
        }
        if (!within(moist, 0, MOST_MOIST) || loads.isFull() || !bins.canPut(bin, kind, kg)) {
            return NONE;
        }
        long grams = (long) kg * (1000 - moist);
        bins.put(bin, kind, kg, grams);
        return loads.add(farmer, kind, moist, grams);
    }

    public int leg(int a, int b, int minutes) {
        return net.add(a, b, minutes);
    }

    public boolean cleaning(int minutes) {
        if (!within(minutes, 0, 99)) {
            return false;
        }
        net.cleanMinutes = minutes;
        return true;
    }

    public int way(int kind, int a, int b) {
        return net.find(kind, a, b);
    }

    public int wayLeg(int kind, int a, int b, int i) {
        if (net.find(kind, a, b) == NONE || !within(i, 0, net.steps - 1)) {
            return NONE;
        }
        return net.path[i];
    }

    public int move(int a, int b, int kg) {
        if (!bins.canTake(a, kg)) {
            return NONE;
        }
        int kind = bins.kind[a];
        if (!bins.canPut(b, kind, kg)) {
            return NONE;
        }
        int cost = net.find(kind, a, b);
        if (cost != NONE) {
            net.goBy(kind, cost);
            bins.put(b, kind, kg, bins.take(a, kg));
        }
        return cost;
    }

    public int dry(int a, int b, int kg, int moist) {
        if (!bins.canTake(a, kg) || !within(moist, 0, 300) || moist >= bins.moist(a)) {
            return NONE;
        }
        int kind = bins.kind[a];
        int come = (int) (bins.part(a, kg) / (1000 - moist));
        if (come < 1 || !bins.canPut(b, kind, come)) {
            return NONE;
        }
        int cost = net.find(kind, a, b);
        if (cost == NONE) {
            return NONE;
        }
        net.goBy(kind, cost);
        bins.put(b, kind, come, bins.take(a, kg));
        water += kg - come;
        return come;
    }

    public long ship(int bin, int kg) {
        if (!bins.canTake(bin, kg)) {
            return NONE;
        }
        long grams = bins.take(bin, kg);
        shippedKg += kg;
        shippedDry += grams;
        return grams;
    }

    public int binOf(int bin, int what) {
        if (!isBin(bin)) {
            return NONE;
        }
        switch (what) {
            case 0:
                return bins.kg[bin] == 0 ? NONE : bins.kind[bin];
            case 1:
                return bins.kg[bin];
            case 2:
                return bins.moist(bin);
            case 3:
                return bins.room[bin];
            default:
                return NONE;
        }
    }

    public long dryIn(int bin) {
        return isBin(bin) ? bins.grams[bin] : NONE;
    }

    public int truck(int minute, int kind, int weight) {
        return queue.add(minute, kind, weight);
    }

    public boolean pit(int unload, int change) {
        if (!within(unload, 1, 60) || !within(change, 0, 60)) {
            return false;
        }
        queue.setPit(unload, change);
        return true;
    }

    public int rush() {
        return queue.waits();
    }

    public int served(int i, int what) {
        if (!within(i, 0, queue.count - 1)) {
            return NONE;
        }
        queue.waits();
        switch (what) {
            case 0:
                return queue.order[i];
            case 1:
                return queue.empty[i];
            default:
                return NONE;
        }
    }

    public int gone() {
        return queue.clear();
    }

    public boolean hour(int h, boolean dry, int cost) {
        return plan.setHour(h, dry, cost);
    }

    public boolean needs(int bin, int hours, int ahead) {
        return bin == NONE ? plan.setPower(hours) : plan.setNeed(bin, hours, ahead);
    }

    public int fans() {
        return plan.cost();
    }

    public int fansOf(int bin) {
        if (!isBin(bin) || plan.cost() == NONE) {
            return NONE;
        }
        return plan.on[bin];
    }

    public long blend(int kind, int set, int q, int moist) {
        if (!isKind(kind) || !within(set, 0, 255) || !within(q, 1, 20) || !within(moist, 0, 1000)) {
            return NONE;
        }
        if (!blender.choose(bins, kind, set)) {
            return NONE;
        }
        return blender.best(bins, q, moist);
    }

    public int blended(int bin) {
        return isBin(bin) && blender.told ? blender.tons[bin] : NONE;
    }

    public int feed(int a, int b, int c, int d, int e) {
        if (!tape.hasRoom(20)) {
            return NONE;
        }
        tape.put(a);
        tape.put(b);
        tape.put(c);
        tape.put(d);
        tape.put(e);
        return tape.length;
    }

    public int end(int n) {
        if (!within(n, 0, tape.length)) {
            return NONE;
        }
        tape.length = n;
        return n;
    }

    public int list() {
        int clauses = reader.read(tape, spare);
        tape.length = 0;
        if (clauses != NONE) {
            PriceList former = prices;
            prices = spare;
            spare = former;
        }
        return clauses;
    }

    public int fault(int what) {
        if (!reader.used) {
            return NONE;
        }
        switch (what) {
            case 0:
                return reader.fault;
            case 1:
                return reader.place;
            default:
                return NONE;
        }
    }

    public int worth(int load) {
        return within(load, 0, loads.count - 1) ? loads.value(load, prices) : NONE;
    }

    public long account(int farmer, int what) {
        if (!isFarmer(farmer)) {
            return NONE;
        }
        switch (what) {
            case 0:
                return loads.gramsOf(farmer);
            case 1:
                return loads.valueOf(farmer, prices);
            case 2:
                return loads.countOf(farmer);
            default:
                return NONE;
        }
    }

    public long about(int what) {
        switch (what) {
            case 0:
                return loads.count;
            case 1:
                return net.count;
            case 2:
                return queue.count;
            case 3:
                return net.minutesUsed;
            case 4:
                return water;
            case 5:
                return shippedKg;
            case 6:
                return shippedDry;
            case 7:
                return bins.allGrams();
            case 8:
                return loads.allGrams();
            case 9:
                return tape.length;
            case 10:
                return net.cleanMinutes;
            case 11:
                return queue.unloadMinutes;
            case 12:
                return queue.changeMinutes;
            case 13:
                return plan.power;
            default:
                return NONE;
        }
    }

    private static boolean within(int value, int least, int most) {
        return value >= least && value <= most;
    }

    private static boolean isBin(int bin) {
        return within(bin, 0, BINS - 1);
    }

    private static boolean isKind(int kind) {
        return within(kind, 0, KINDS - 1);
    }

    private static boolean isFarmer(int farmer) {
        return within(farmer, 0, FARMERS - 1);
    }

    /** What stands in the bins. The kind of a bin counts only while it has kg. */
    private static final class Bins {
        final int[] kind = new int[BINS];
        final int[] kg = new int[BINS];
        final int[] room = new int[BINS];
        final long[] grams = new long[BINS];

        Bins() {
            for (int bin = 0; bin < BINS; bin++) {
                room[bin] = 100000;
            }
        }

        boolean has(int bin, int wanted) {
            return kg[bin] > 0 && kind[bin] == wanted;
        }

        boolean canTake(int bin, int amount) {
            return isBin(bin) && within(amount, 1, kg[bin]);
        }

        boolean canPut(int bin, int ofKind, int amount) {
            if (!isBin(bin)) {
                return false;
            }
            return (kg[bin] == 0 || kind[bin] == ofKind) && amount <= room[bin] - kg[bin];
        }

        /** The dry grams that go with so many kg of a bin. */
        long part(int bin, int amount) {
            return kg[bin] == 0 ? 0 : grams[bin] * amount / kg[bin];
        }

        long take(int bin, int amount) {
            long gone = part(bin, amount);
            kg[bin] -= amount;
            grams[bin] -= gone;
            return gone;
        }

        void put(int bin, int ofKind, int amount, long dryGrams) {
            kind[bin] = ofKind;
            kg[bin] += amount;
            grams[bin] += dryGrams;
        }

        int moist(int bin) {
            if (kg[bin] == 0) {
                return NONE;
            }
            // drying cuts kg but no grams, so a kg may hold more than 1000 of them
            return (int) Math.max(0L, 1000L - grams[bin] / kg[bin]);
        }

        long allGrams() {
            long sum = 0;
            for (int bin = 0; bin < BINS; bin++) {
                sum += grams[bin];
            }
            return sum;
        }
    }

    /** All loads that ever came, as they came. */
    private static final class Loads {
        private static final int MOST = 100;

        private final int[] farmer = new int[MOST];
        private final int[] kind = new int[MOST];
        private final int[] moist = new int[MOST];
        private final int[] grams = new int[MOST];
        int count = 0;

        boolean isFull() {
            return count >= MOST;
        }

        int add(int ofFarmer, int ofKind, int itsMoist, long itsGrams) {
            if (isFull()) {
                return NONE;
            }
            farmer[count] = ofFarmer;
            kind[count] = ofKind;
            moist[count] = itsMoist;
            grams[count] = (int) itsGrams;
            count++;
            return count - 1;
        }

        int value(int load, PriceList prices) {
            return prices.value(kind[load], moist[load], grams[load]);
        }

        long valueOf(int ofFarmer, PriceList prices) {
            long sum = 0;
            for (int load = 0; load < count; load++) {
                if (farmer[load] == ofFarmer) {
                    sum += value(load, prices);
                }
            }
            return sum;
        }

        long gramsOf(int ofFarmer) {
            long sum = 0;
            for (int load = 0; load < count; load++) {
                if (farmer[load] == ofFarmer) {
                    sum += grams[load];
                }
            }
            return sum;
        }

        int countOf(int ofFarmer) {
            int sum = 0;
            for (int load = 0; load < count; load++) {
                if (farmer[load] == ofFarmer) {
                    sum++;
                }
            }
            return sum;
        }

        long allGrams() {
            long sum = 0;
            for (int load = 0; load < count; load++) {
                sum += grams[load];
            }
            return sum;
        }
    }

    /** The legs between bins and junctions, and the way found last. */
    private static final class Net {
        private static final int NODES = 12;
        private static final int MOST = 20;
        // a leg costs a minute at least, so THE WAY meets each of the four junctions once at most
        private static final int MOST_STEPS = NODES - BINS + 1;
        private static final int FAR = 1000000;

        private final int[] one = new int[MOST];
        private final int[] other = new int[MOST];
        private final int[] minutes = new int[MOST];
        private final int[] last = new int[MOST];
        /** By [legs yet to go * NODES + node]: the least cost from the node to the goal. */
        private final int[] left = new int[(MOST_STEPS + 1) * NODES];
        final int[] path = new int[MOST_STEPS];
        int steps = 0;
        int count = 0;
        int cleanMinutes = 10;
        long minutesUsed = 0;

        int add(int a, int b, int itsMinutes) {
            if (!within(a, 0, NODES - 1) || !within(b, 0, NODES - 1) || a == b) {
                return NONE;
            }
            if (!within(itsMinutes, 1, 60) || count >= MOST) {
                return NONE;
            }
            one[count] = a;
            other[count] = b;
            minutes[count] = itsMinutes;
            last[count] = NONE;
            count++;
            return count - 1;
        }

        /** What THE WAY costs; its legs stand in path then. NONE without one. */
        int find(int kind, int a, int b) {
            steps = 0;
            if (!isKind(kind) || !isBin(a) || !isBin(b) || a == b) {
                return NONE;
            }
            for (int i = 0; i < left.length; i++) {
                left[i] = FAR;
            }
            left[b] = 0;
            int best = FAR;
            for (int n = 1; n <= MOST_STEPS; n++) {
                spread(kind, a, n);
                if (left[n * NODES + a] < best) {
                    best = left[n * NODES + a];
                    steps = n;
                }
            }
            if (steps == 0) {
                return NONE;
            }
            trace(kind, a);
            return best;
        }

        private int costOf(int leg, int kind) {
            boolean clean = last[leg] == NONE || last[leg] == kind;
            return clean ? minutes[leg] : minutes[leg] + cleanMinutes;
        }

        private void spread(int kind, int start, int n) {
            for (int leg = 0; leg < count; leg++) {
                int cost = costOf(leg, kind);
                spreadOver(one[leg], other[leg], cost, start, n);
                spreadOver(other[leg], one[leg], cost, start, n);
            }
        }

        private void spreadOver(int from, int to, int cost, int start, int n) {
            // bins stand at the ends alone: the start is never come to, others never left
            if (to == start || (from != start && from < BINS)) {
                return;
            }
            int cell = n * NODES + from;
            left[cell] = Math.min(left[cell], cost + left[(n - 1) * NODES + to]);
        }

        /** Of the ways of the least cost and fewest legs, the lowest leg at each node is the first. */
        private void trace(int kind, int start) {
            int at = start;
            for (int i = 0; i < steps; i++) {
                int n = steps - i;
                int leg = firstLeg(kind, at, start, n);
                if (leg == NONE) {
                    return;
                }
                path[i] = leg;
                at = one[leg] == at ? other[leg] : one[leg];
            }
        }

        private int firstLeg(int kind, int at, int start, int n) {
            int due = left[n * NODES + at];
            int behind = (n - 1) * NODES;
            for (int leg = 0; leg < count; leg++) {
                int to = one[leg] == at ? other[leg] : one[leg];
                boolean touches = one[leg] == at || other[leg] == at;
                if (touches && to != start && costOf(leg, kind) + left[behind + to] == due) {
                    return leg;
                }
            }
            return NONE;
        }

        /** Something goes by the way found last. */
        void goBy(int kind, int cost) {
            for (int i = 0; i < steps; i++) {
                last[path[i]] = kind;
            }
            minutesUsed += cost;
        }
    }

    /** The trucks and the order in which they wait least. */
    private static final class Rush {
        private static final int MOST = 7;
        /** Above all waits that there can be. */
        private static final int ENDLESS = 1000000000;

        private final int[] minute = new int[MOST];
        private final int[] kind = new int[MOST];
        private final int[] weight = new int[MOST];
        private final int[] heaviest = new int[MOST];
        private final int[] trial = new int[MOST];
        final int[] order = new int[MOST];
        final int[] empty = new int[MOST];
        int count = 0;
        int unloadMinutes = 10;
        int changeMinutes = 5;
        private int least = 0;
        private boolean known = true;

        int add(int itsMinute, int itsKind, int itsWeight) {
            if (!within(itsMinute, 0, 999) || !isKind(itsKind) || !within(itsWeight, 1, 9)) {
                return NONE;
            }
            if (count >= MOST) {
                return NONE;
            }
            minute[count] = itsMinute;
            kind[count] = itsKind;
            weight[count] = itsWeight;
            sortIn(count);
            count++;
            known = false;
            return count - 1;
        }

        private void sortIn(int truck) {
            int place = truck;
            while (place > 0 && weight[heaviest[place - 1]] < weight[truck]) {
                heaviest[place] = heaviest[place - 1];
                place--;
            }
            heaviest[place] = truck;
        }

        void setPit(int unload, int change) {
            unloadMinutes = unload;
            changeMinutes = change;
            known = false;
        }

        int clear() {
            int had = count;
            count = 0;
            least = 0;
            known = true;
            return had;
        }

        int waits() {
            if (!known) {
                least = ENDLESS;
                tryAll(0, 0, 0, 0);
                setEmpty();
                known = true;
            }
            return least;
        }

        /** Goes through the orders by trucks, so that of like ones the first stays. */
        private void tryAll(int depth, int taken, int free, int waits) {
            if (depth >= count) {
                least = waits;
                System.arraycopy(trial, 0, order, 0, count);
                return;
            }
            for (int truck = 0; truck < count; truck++) {
                if ((taken >> truck & 1) != 0) {
                    continue;
                }
                int begin = Math.max(free, minute[truck]);
                int sum = waits + (begin - minute[truck]) * weight[truck];
                int ends = begin + takes(depth, truck);
                int all = taken | 1 << truck;
                trial[depth] = truck;
                if (sum + atLeast(all, ends) < least) {
                    tryAll(depth + 1, all, ends, sum);
                }
            }
        }

        private int takes(int depth, int truck) {
            boolean other = depth > 0 && kind[trial[depth - 1]] != kind[truck];
            return other ? unloadMinutes + changeMinutes : unloadMinutes;
        }

        /** Waits that the trucks not yet taken can't stay below, so that poor orders are left early. */
        private int atLeast(int taken, int free) {
            int inRow = 0;
            int atOnce = 0;
            int begin = free;
            for (int i = 0; i < count; i++) {
                int truck = heaviest[i];
                if ((taken >> truck & 1) == 0) {
                    inRow += (begin - minute[truck]) * weight[truck];
                    atOnce += Math.max(0, free - minute[truck]) * weight[truck];
                    begin += unloadMinutes;
                }
            }
            return Math.max(inRow, atOnce);
        }

        private void setEmpty() {
            int free = 0;
            for (int i = 0; i < count; i++) {
                int truck = order[i];
                trial[i] = truck;
                free = Math.max(free, minute[truck]) + takes(i, truck);
                empty[i] = free;
            }
        }
    }

    /** The hours of the fans: sets of hours are bits. */
    private static final class FanPlan {
        private static final int HOURS = 12;
        private static final int BY_SPARE = BINS;

        private final boolean[] isDry = new boolean[HOURS];
        private final int[] price = new int[HOURS];
        private final int[] need = new int[BINS];
        private final int[] limit = new int[BINS];
        /** Hours that a bin may still be given or lose. */
        private final int[] open = new int[BINS];
        private final int[] used = new int[HOURS];
        private final int[] queue = new int[HOURS];
        /** By which bin an hour was reached (BY_SPARE: none, but by spare power), and from which hour. */
        private final int[] byBin = new int[HOURS];
        private final int[] fromHour = new int[HOURS];
        final int[] on = new int[BINS];
        int power = 2;
        private int queued = 0;
        private int seen = 0;
        private int total = 0;
        private boolean known = true;

        FanPlan() {
            for (int h = 0; h < HOURS; h++) {
                isDry[h] = true;
                price[h] = 1;
            }
            for (int bin = 0; bin < BINS; bin++) {
                limit[bin] = HOURS;
            }
        }

        boolean setHour(int h, boolean dryThen, int cost) {
            if (!within(h, 0, HOURS - 1) || !within(cost, 0, 99)) {
                return false;
            }
            isDry[h] = dryThen;
            price[h] = cost;
            known = false;
            return true;
        }

        boolean setPower(int bins) {
            if (!within(bins, 1, BINS)) {
                return false;
            }
            power = bins;
            known = false;
            return true;
        }

        boolean setNeed(int bin, int hours, int ahead) {
            if (!isBin(bin) || !within(hours, 0, HOURS) || !within(ahead, 0, HOURS)) {
                return false;
            }
            need[bin] = hours;
            limit[bin] = ahead;
            known = false;
            return true;
        }

        int cost() {
            if (!known) {
                total = cheapest() ? paid() : NONE;
                if (total != NONE) {
                    makeFirst();
                }
                known = true;
            }
            return total;
        }

        private int paid() {
            int sum = 0;
            for (int h = 0; h < HOURS; h++) {
                sum += used[h] * price[h];
            }
            return sum;
        }

        /** Some plan of the least cost: each hour more is got where it costs least. */
        private boolean cheapest() {
            int dryHours = 0;
            for (int h = 0; h < HOURS; h++) {
                used[h] = 0;
                if (isDry[h]) {
                    dryHours |= 1 << h;
                }
            }
            for (int bin = 0; bin < BINS; bin++) {
                on[bin] = 0;
                open[bin] = dryHours & (1 << limit[bin]) - 1;
            }
            for (int bin = 0; bin < BINS; bin++) {
                for (int n = 0; n < need[bin]; n++) {
                    if (!addHour(bin)) {
                        return false;
                    }
                }
            }
            return true;
        }

        /** One hour more for a bin, other bins giving way where that is cheaper. */
        private boolean addHour(int bin) {
            queued = 0;
            seen = 0;
            reachBy(bin, NONE);
            int best = NONE;
            for (int i = 0; i < queued; i++) {
                int h = queue[i];
                if (used[h] < power && (best == NONE || price[h] < price[best])) {
                    best = h;
                }
                reachFrom(h, bin);
            }
            if (best == NONE) {
                return false;
            }
            used[best]++;
            shift(best);
            return true;
        }

        /** Hours that a bin could run in place of one that it has (NONE: one more). */
        private void reachBy(int bin, int from) {
            int fresh = open[bin] & ~on[bin] & ~seen;
            for (int h = 0; h < HOURS && fresh >> h != 0; h++) {
                if ((fresh >> h & 1) != 0) {
                    reach(h, bin, from);
                }
            }
        }

        private void reach(int h, int bin, int from) {
            if (queued >= HOURS) {
                return;
            }
            seen |= 1 << h;
            byBin[h] = bin;
            fromHour[h] = from;
            queue[queued] = h;
            queued++;
        }

        private void reachFrom(int h, int but) {
            for (int bin = 0; bin < BINS; bin++) {
                if (bin != but && (on[bin] & open[bin] & 1 << h) != 0) {
                    reachBy(bin, h);
                }
            }
        }

        /** Each bin on the chain back from an hour runs in the hour that it reached, not where it came from. */
        private void shift(int reached) {
            int h = reached;
            for (int i = 0; i < HOURS && h != NONE; i++) {
                int from = fromHour[h];
                int bin = byBin[h];
                if (bin == BY_SPARE) {
                    used[h]--;
                    used[from]++;
                } else {
                    on[bin] |= 1 << h;
                    if (from != NONE) {
                        on[bin] &= ~(1 << from);
                    }
                }
                h = from;
            }
        }

        /** Of the plans of that cost the first: each hour is switched on in turn, if some such plan has it. */
        private void makeFirst() {
            for (int bin = 0; bin < BINS; bin++) {
                for (int h = 0; h < HOURS; h++) {
                    boolean off = (open[bin] & ~on[bin] & 1 << h) != 0;
                    if (off && (open[bin] & on[bin]) != 0) {
                        exchange(bin, h);
                    }
                    open[bin] &= ~(1 << h);
                }
            }
        }

        /** The bin gets the hour for one of its open ones, if the others can make up for it at no cost. */
        private void exchange(int bin, int hour) {
            queued = 0;
            seen = 0;
            reach(hour, bin, NONE);
            for (int i = 0; i < queued; i++) {
                int h = queue[i];
                if ((on[bin] & open[bin] & 1 << h) != 0) {
                    on[bin] &= ~(1 << h);
                    shift(h);
                    return;
                }
                reachFrom(h, bin);
                if (used[h] < power) {
                    reachBySpare(h);
                }
            }
        }

        /** Power that is spare in an hour can be used there in place of another hour of like cost. */
        private void reachBySpare(int from) {
            for (int h = 0; h < HOURS; h++) {
                if ((seen >> h & 1) == 0 && used[h] > 0 && price[h] == price[from]) {
                    reach(h, BY_SPARE, from);
                }
            }
        }
    }

    /** The wettest blend that an order lets, of four bins at most. */
    private static final class Blender {
        private static final int MOST_BINS = 4;
        private static final int MOST_TONS = 20;
        private static final int ROW = MOST_TONS + 1;
        /** Above all grams of a blend. */
        private static final long NO_BLEND = 1000000000000L;

        private final int[] from = new int[MOST_BINS];
        private final int[] most = new int[MOST_BINS];
        /** By [place * ROW + tons]: the dry grams of so many tons of the bin at that place. */
        private final long[] grams = new long[MOST_BINS * ROW];
        private final int[] wettest = new int[MOST_BINS];
        private int chosen = 0;
        private long leastGrams = 0;
        final int[] tons = new int[BINS];
        boolean told = false;

        /** False: none of the set's bins has the kind, or too many have it. */
        boolean choose(Bins bins, int kind, int set) {
            chosen = 0;
            for (int bin = 0; bin < BINS; bin++) {
                if ((set >> bin & 1) != 0 && bins.has(bin, kind)) {
                    if (chosen >= MOST_BINS) {
                        return false;
                    }
                    from[chosen] = bin;
                    chosen++;
                }
            }
            return chosen > 0;
        }

        long best(Bins bins, int q, int moist) {
            reckon(bins, q);
            leastGrams = NO_BLEND;
            tryAll(q, (1000L - moist) * 1000L * q);
            if (leastGrams == NO_BLEND) {
                return NONE;
            }
            for (int bin = 0; bin < BINS; bin++) {
                tons[bin] = 0;
            }
            for (int i = 0; i < chosen; i++) {
                tons[from[i]] = wettest[i];
            }
            told = true;
            return leastGrams;
        }

        private void reckon(Bins bins, int q) {
            for (int i = 0; i < MOST_BINS; i++) {
                most[i] = i < chosen ? Math.min(q, bins.kg[from[i]] / 1000) : 0;
                for (int n = 1; n <= most[i]; n++) {
                    grams[i * ROW + n] = bins.part(from[i], n * 1000);
                }
            }
        }

        /** Goes from the most of the lowest bin downwards, so that of like blends the first stays. */
        private void tryAll(int q, long wanted) {
            for (int a = Math.min(q, most[0]); a >= 0; a--) {
                int restA = q - a;
                for (int b = Math.min(restA, most[1]); b >= 0; b--) {
                    int restB = restA - b;
                    long sum = grams[a] + grams[ROW + b];
                    for (int c = Math.min(restB, most[2]); c >= 0 && restB - c <= most[3]; c--) {
                        int d = restB - c;
                        long all = sum + grams[2 * ROW + c] + grams[3 * ROW + d];
                        if (all >= wanted && all < leastGrams) {
                            leastGrams = all;
                            wettest[0] = a;
                            wettest[1] = b;
                            wettest[2] = c;
                            wettest[3] = d;
                        }
                    }
                }
            }
        }
    }

    /** The bytes of a price list that is being fed. */
    private static final class Tape {
        private static final int MOST = 200;

        final int[] bytes = new int[MOST];
        int length = 0;

        boolean hasRoom(int more) {
            return length + more <= MOST;
        }

        void put(int four) {
            if (!hasRoom(4)) {
                return;
            }
            for (int shift = 24; shift >= 0; shift -= 8) {
                bytes[length] = four >>> shift & 255;
                length++;
            }
        }
    }

    /** Prices by kind and docks by moist. */
    private static final class PriceList {
        private static final int MOST_DOCKS = 8;

        private final int[] price = new int[KINDS];
        private final boolean[] priced = new boolean[KINDS];
        private final int[] dockAbove = new int[MOST_DOCKS];
        private final int[] dockLoss = new int[MOST_DOCKS];
        private int docks = 0;

        void clear() {
            docks = 0;
            for (int kind = 0; kind < KINDS; kind++) {
                price[kind] = 0;
                priced[kind] = false;
            }
        }

        boolean hasPrice(int kind) {
            return isKind(kind) && priced[kind];
        }

        boolean hasDock(int moist) {
            for (int i = 0; i < docks; i++) {
                if (dockAbove[i] == moist) {
                    return true;
                }
            }
            return false;
        }

        boolean isFull() {
            return docks >= MOST_DOCKS;
        }

        void addPrice(int kind, int itsPrice) {
            if (isKind(kind)) {
                price[kind] = itsPrice;
                priced[kind] = true;
            }
        }

        void addDock(int above, int loss) {
            if (!isFull()) {
                dockAbove[docks] = above;
                dockLoss[docks] = loss;
                docks++;
            }
        }

        int value(int kind, int moist, int grams) {
            long whole = (long) grams * price[kind] / 1000000;
            int loss = 0;
            for (int i = 0; i < docks; i++) {
                if (moist > dockAbove[i]) {
                    loss += dockLoss[i];
                }
            }
            return (int) (whole - whole * Math.min(100, loss) / 100);
        }
    }

    /** Reads a tape token by token into a price list, up to the first fault. */
    private static final class Reader {
        private static final int END = 0;
        private static final int NO_TOKEN = 1;
        private static final int WORD = 2;
        private static final int NUMBER = 3;
        private static final int SEMICOLON = 4;

        private static final int AT_WORD = 0;
        private static final int AT_FIRST = 1;
        private static final int AT_SECOND = 2;
        private static final int AT_CLOSE = 3;

        private static final String PRICE = "price";
        private static final String DOCK = "dock";
        /** Above all numbers that a clause may have. */
        private static final int HUGE = 1000000;

        boolean used = false;
        int fault = 0;
        int place = NONE;
        private int at = 0;
        private int start = 0;
        private int token = END;
        private int number = 0;
        private int step = AT_WORD;
        private boolean isDock = false;
        private int first = 0;
        private int clauses = 0;

        /** How many clauses there are; NONE, and the fault is set, if there is one. */
        int read(Tape tape, PriceList into) {
            used = true;
            fault = 0;
            place = NONE;
            at = 0;
            step = AT_WORD;
            clauses = 0;
            into.clear();
            // each token but the end has a byte at least
            for (int turn = 0; turn <= tape.length; turn++) {
                next(tape);
                if (token == END && step == AT_WORD) {
                    return clauses;
                }
                fault = faultHere(tape, into);
                if (fault != 0) {
                    place = start;
                    return NONE;
                }
                accept(tape, into);
            }
            return NONE;
        }

        private void next(Tape tape) {
            while (at < tape.length && tape.bytes[at] == ' ') {
                at++;
            }
            start = at;
            if (at >= tape.length) {
                token = END;
            } else if (isLetter(tape.bytes[at])) {
                token = WORD;
                while (at < tape.length && isLetter(tape.bytes[at])) {
                    at++;
                }
            } else if (isDigit(tape.bytes[at])) {
                token = NUMBER;
                readNumber(tape);
            } else {
                token = tape.bytes[at] == ';' ? SEMICOLON : NO_TOKEN;
                at++;
            }
        }

        private void readNumber(Tape tape) {
            number = 0;
            while (at < tape.length && isDigit(tape.bytes[at])) {
                number = Math.min(HUGE, number * 10 + tape.bytes[at] - '0');
                at++;
            }
        }

        private static boolean isLetter(int sign) {
            return within(sign, 'a', 'z') || within(sign, 'A', 'Z');
        }

        private static boolean isDigit(int sign) {
            return within(sign, '0', '9');
        }

        private boolean isWord(Tape tape, String word) {
            if (token != WORD || at - start != word.length()) {
                return false;
            }
            for (int i = 0; i < word.length(); i++) {
                if (tape.bytes[start + i] != word.charAt(i)) {
                    return false;
                }
            }
            return true;
        }

        private int faultHere(Tape tape, PriceList into) {
            switch (step) {
                case AT_WORD:
                    if (isWord(tape, DOCK)) {
                        return into.isFull() ? 4 : 0;
                    }
                    return isWord(tape, PRICE) ? 0 : 1;
                case AT_FIRST:
                    return token == NUMBER ? faultOfFirst(into) : 1;
                case AT_SECOND:
                    return token == NUMBER ? faultOfSecond() : 1;
                default:
                    return token == SEMICOLON ? 0 : 1;
            }
        }

        private int faultOfFirst(PriceList into) {
            boolean again = isDock ? into.hasDock(number) : into.hasPrice(number);
            if (again) {
                return 2;
            }
            return number <= (isDock ? MOST_MOIST : KINDS - 1) ? 0 : 3;
        }

        private int faultOfSecond() {
            boolean told = isDock ? within(number, 1, 50) : within(number, 0, 9999);
            return told ? 0 : 3;
        }

        private void accept(Tape tape, PriceList into) {
            switch (step) {
                case AT_WORD:
                    isDock = isWord(tape, DOCK);
                    step = AT_FIRST;
                    break;
                case AT_FIRST:
                    first = number;
                    step = AT_SECOND;
                    break;
                case AT_SECOND:
                    if (isDock) {
                        into.addDock(first, number);
                    } else {
                        into.addPrice(first, number);
                    }
                    step = AT_CLOSE;
                    break;
                default:
                    clauses++;
                    step = AT_WORD;
                    break;
            }
        }
    }
}
