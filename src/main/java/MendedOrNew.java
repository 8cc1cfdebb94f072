/** Machines that wear by chances: what is thought of them, what they cost, and when to mend them. */
public final class MendedOrNew {
    public static final int UNKNOWN = -1, OUTSIDE = -2, STATE = -3, FULL = -4, NONE = -9;

    private static final int MACHINES = 3;
    private static final int WEARS = 8;
    private static final int MENDINGS = 4;
    private static final int RULES = 4;
    private static final int ACTS = 5;
    private static final int LOOK_ACT = 5;
    private static final int SLOTS = 2;
    private static final int ROWS = 16;
    private static final int BYTES = 64;
    private static final int TENTHS = 10;
    private static final int PLAN_DAYS = 8;
    private static final int UNSEEN_DAYS = 3;
    private static final int TWO_DAYS = 6;
    private static final int MOST_RULES = 1024;
    private static final long HEAVIEST = 1000000000000000L;
    private static final long UNSEEN_HEAVIEST = 1000000000L;

    private final Text text;
    private final Kind draft;
    private final Kind[] kinds;
    private final Thought[] thoughts;
    private final Thought trial;
    private final int[] timesMade;
    private final int[][] rules;
    private final int[] barActs;
    private final Log rows;
    private final Slot[] slots;
    private final Chain chain;
    private final BestRule[] bestRules;
    private final Fraction fraction;
    private final Plan planner;
    private final Unseen blind;
    private final Two pair;
    private final long[] lives;

    public MendedOrNew() {
        text = new Text();
        draft = new Kind();
        kinds = new Kind[MACHINES];
        thoughts = new Thought[MACHINES];
        bestRules = new BestRule[MACHINES];
        for (int i = 0; i < MACHINES; i++) {
            kinds[i] = new Kind();
            thoughts[i] = new Thought();
            bestRules[i] = new BestRule();
        }
        trial = new Thought();
        timesMade = new int[MACHINES];
        rules = new int[RULES][WEARS];
        barActs = new int[WEARS];
        rows = new Log();
        slots = new Slot[SLOTS];
        for (int i = 0; i < SLOTS; i++) {
            slots[i] = new Slot();
        }
        chain = new Chain();
        fraction = new Fraction();
        planner = new Plan();
        blind = new Unseen();
        pair = new Two();
        lives = new long[WEARS];
    }

    // ---- texts

    public int write(int n, long v) {
        if (n < 1 || n > 8) {
            return OUTSIDE;
        }
        return text.append(n, v);
    }

    public int wipe() {
        int before = text.length;
        text.length = 0;
        return before;
    }

    public int fault() {
        return text.readInto(draft);
    }

    public int make(int machine) {
        if (!isMachine(machine)) {
            return UNKNOWN;
        }
        if (text.readInto(draft) != NONE) {
            return STATE;
        }
        kinds[machine].copyFrom(draft);
        thoughts[machine].settle(0);
        bestRules[machine].forget();
        timesMade[machine]++;
        return draft.wears;
    }

    public int about(int machine, int what) {
        if (!isMachine(machine)) {
            return UNKNOWN;
        }
        switch (what) {
            case 0: return kinds[machine].wears;
            case 1: return kinds[machine].lookCost;
            case 2: return kinds[machine].mendingBits();
            default: return OUTSIDE;
        }
    }

    public int worn(int machine, int wear, int what) {
        if (!isWear(machine, wear)) {
            return UNKNOWN;
        }
        switch (what) {
            case 0: return kinds[machine].dayCost[wear];
            case 1: return kinds[machine].knockTenths[wear];
            case 2: return kinds[machine].leaves[wear];
            default: return OUTSIDE;
        }
    }

    public int goes(int machine, int wear, int other) {
        if (!isWear(machine, wear) || !isWear(machine, other)) {
            return UNKNOWN;
        }
        return kinds[machine].tenths[wear * WEARS + other];
    }

    public int mending(int machine, int mending, int what) {
        if (!isMending(machine, mending)) {
            return UNKNOWN;
        }
        switch (what) {
            case 0: return kinds[machine].mendCost[mending];
            case 1: return kinds[machine].mendWear[mending];
            default: return OUTSIDE;
        }
    }

    // ---- thoughts

    public int day(int machine) {
        if (!isMachine(machine)) {
            return UNKNOWN;
        }
        return thoughts[machine].passDay(kinds[machine]);
    }

    public int hear(int machine, boolean knock) {
        if (!isMachine(machine)) {
            return UNKNOWN;
        }
        return thoughts[machine].takeKnock(kinds[machine], knock);
    }

    public int mend(int machine, int mending) {
        if (!isMending(machine, mending)) {
            return UNKNOWN;
        }
        int wear = kinds[machine].mendWear[mending];
        thoughts[machine].settle(wear);
        return wear;
    }

    public int look(int machine, int wear) {
        if (!isWear(machine, wear)) {
            return UNKNOWN;
        }
        if (!kinds[machine].hasLook() || thoughts[machine].weights[wear] == 0) {
            return STATE;
        }
        thoughts[machine].settle(wear);
        return 1;
    }

    public long weight(int machine, int wear) {
        if (!isWear(machine, wear)) {
            return UNKNOWN;
        }
        return thoughts[machine].weights[wear];
    }

    public long chance(int machine, int wear, boolean upper) {
        if (!isWear(machine, wear)) {
            return UNKNOWN;
        }
        Thought thought = thoughts[machine];
        fraction.become(thought.weights[wear], thought.sumFrom(0));
        return fraction.told(upper);
    }

    public long knock(int machine, boolean upper) {
        if (!isMachine(machine)) {
            return UNKNOWN;
        }
        Thought thought = thoughts[machine];
        fraction.become(thought.knockWeight(kinds[machine]), TENTHS * thought.sumFrom(0));
        return fraction.told(upper);
    }

    public int likely(int machine) {
        if (!isMachine(machine)) {
            return UNKNOWN;
        }
        return thoughts[machine].heaviest();
    }

    // ---- rules

    public long life(int machine, int wear, boolean upper) {
        if (!isWear(machine, wear)) {
            return UNKNOWN;
        }
        long scale = kinds[machine].findLives(lives);
        if (lives[wear] < 0) {
            return NONE;
        }
        fraction.become(lives[wear], scale);
        return fraction.told(upper);
    }

    public int rule(int rule, int wear, int act) {
        if (!isRule(rule) || wear < 0 || wear >= WEARS) {
            return UNKNOWN;
        }
        if (act < 0 || act >= ACTS) {
            return OUTSIDE;
        }
        int before = rules[rule][wear];
        rules[rule][wear] = act;
        return before;
    }

    public long cost(int machine, int rule, boolean upper) {
        if (!isMachine(machine) || !isRule(rule)) {
            return UNKNOWN;
        }
        if (!chain.findCost(kinds[machine], rules[rule], fraction)) {
            return STATE;
        }
        return fraction.told(upper);
    }

    public int which(int machine, int rule, int other) {
        if (!isMachine(machine) || !isRule(rule) || !isRule(other)) {
            return UNKNOWN;
        }
        if (!chain.findCost(kinds[machine], rules[rule], fraction)) {
            return STATE;
        }
        long above = fraction.above;
        long below = fraction.below;
        if (!chain.findCost(kinds[machine], rules[other], fraction)) {
            return STATE;
        }
        int order = fraction.compareWith(above, below);
        return order == 0 ? 3 : (order > 0 ? 1 : 2);
    }

    public int best(int machine) {
        if (!isMachine(machine)) {
            return UNKNOWN;
        }
        if (kinds[machine].ruleCount() > MOST_RULES) {
            return STATE;
        }
        bestRules[machine].find(kinds[machine], chain);
        return bestRules[machine].number;
    }

    public long bestCost(int machine, boolean upper) {
        if (!isMachine(machine)) {
            return UNKNOWN;
        }
        if (kinds[machine].ruleCount() > MOST_RULES) {
            return STATE;
        }
        bestRules[machine].find(kinds[machine], chain);
        if (bestRules[machine].number == NONE) {
            return NONE;
        }
        return bestRules[machine].least.told(upper);
    }

    public int put(int machine, int rule, int number) {
        if (!isMachine(machine) || !isRule(rule)) {
            return UNKNOWN;
        }
        int wears = kinds[machine].wears;
        if (number < 0 || number >= power(ACTS, wears)) {
            return OUTSIDE;
        }
        int rest = number;
        int busy = 0;
        for (int wear = WEARS - 1; wear >= 0; wear--) {
            int act = 0;
            if (wear < wears) {
                act = rest % ACTS;
                rest = rest / ACTS;
            }
            rules[rule][wear] = act;
            busy += act != 0 ? 1 : 0;
        }
        return busy;
    }

    public long barCost(int machine, int mending, int bar, boolean upper) {
        if (!isMending(machine, mending)) {
            return UNKNOWN;
        }
        if (bar < 1 || bar >= kinds[machine].wears) {
            return OUTSIDE;
        }
        if (!findBarCost(machine, mending, bar)) {
            return STATE;
        }
        return fraction.told(upper);
    }

    public int bar(int machine) {
        if (!isMachine(machine)) {
            return UNKNOWN;
        }
        int found = NONE;
        long above = 0;
        long below = 1;
        for (int mending = 0; mending < MENDINGS; mending++) {
            for (int bar = 1; bar < kinds[machine].wears; bar++) {
                if (isMending(machine, mending) && findBarCost(machine, mending, bar)
                        && (found == NONE || fraction.compareWith(above, below) < 0)) {
                    found = 10 * mending + bar;
                    above = fraction.above;
                    below = fraction.below;
                }
            }
        }
        return found;
    }

    // ---- some days ahead

    public long plan(int machine, int wear, int days, int p, int f, boolean upper) {
        int refusal = refusalOfPlan(machine, wear, days, p, f);
        if (refusal != 0) {
            return refusal;
        }
        planner.find(kinds[machine], wear, days, p, f);
        fraction.become(planner.least, power(TENTHS, days - 1));
        return fraction.told(upper);
    }

    public int planAct(int machine, int wear, int days, int p, int f) {
        int refusal = refusalOfPlan(machine, wear, days, p, f);
        if (refusal != 0) {
            return refusal;
        }
        planner.find(kinds[machine], wear, days, p, f);
        return planner.firstAct;
    }

    public long unseen(int machine, int days, boolean upper) {
        int refusal = refusalOfUnseen(machine, days);
        if (refusal != 0) {
            return refusal;
        }
        blind.find(kinds[machine], thoughts[machine], days);
        fraction.become(blind.least, thoughts[machine].sumFrom(0) * power(TENTHS * TENTHS, days - 1));
        return fraction.told(upper);
    }

    public int unseenAct(int machine, int days) {
        int refusal = refusalOfUnseen(machine, days);
        if (refusal != 0) {
            return refusal;
        }
        blind.find(kinds[machine], thoughts[machine], days);
        return blind.firstAct;
    }

    public long two(int machine, int wear, int other, int its, int days, boolean upper) {
        int refusal = refusalOfTwo(machine, wear, other, its, days);
        if (refusal != 0) {
            return refusal;
        }
        pair.find(kinds[machine], kinds[other], days);
        fraction.become(pair.least(wear, its), power(TENTHS, days - 1));
        return fraction.told(upper);
    }

    public int whom(int machine, int wear, int other, int its, int days) {
        int refusal = refusalOfTwo(machine, wear, other, its, days);
        if (refusal != 0) {
            return refusal;
        }
        pair.find(kinds[machine], kinds[other], days);
        return pair.first(wear, its);
    }

    // ---- the log

    public int log(int row) {
        if (row < 0 || row >= 2 + MENDINGS) {
            return OUTSIDE;
        }
        return rows.append(row);
    }

    public int unlog() {
        int before = rows.length;
        rows.length = 0;
        return before;
    }

    public int read(int machine) {
        if (!isMachine(machine)) {
            return UNKNOWN;
        }
        trial.settle(0);
        for (int i = 0; i < rows.length; i++) {
            int said = trial.follow(kinds[machine], rows.row[i]);
            if (said < 0) {
                return said;
            }
        }
        thoughts[machine].copyFrom(trial);
        return rows.length;
    }

    public int late(int machine, int bar, int share) {
        if (!isMachine(machine)) {
            return UNKNOWN;
        }
        if (bar < 0 || bar >= WEARS || share < 1 || share > 100) {
            return OUTSIDE;
        }
        trial.settle(0);
        for (int i = 0; i < rows.length; i++) {
            int said = trial.follow(kinds[machine], rows.row[i]);
            if (said < 0) {
                return said;
            }
            if (100 * trial.sumFrom(bar) >= share * trial.sumFrom(0)) {
                return i;
            }
        }
        return NONE;
    }

    public int keep(int slot) {
        if (!isSlot(slot)) {
            return UNKNOWN;
        }
        return slots[slot].store(thoughts, timesMade, rows);
    }

    public int again(int slot) {
        if (!isSlot(slot)) {
            return UNKNOWN;
        }
        if (!slots[slot].used) {
            return STATE;
        }
        return slots[slot].restore(thoughts, timesMade, rows);
    }

    public int count(int what) {
        switch (what) {
            case 0: return text.length;
            case 1: return rows.length;
            case 2: return allMendings();
            default: return OUTSIDE;
        }
    }

    // ---- what the calls share

    private static boolean isMachine(int machine) {
        return machine >= 0 && machine < MACHINES;
    }

    private static boolean isRule(int rule) {
        return rule >= 0 && rule < RULES;
    }

    private static boolean isSlot(int slot) {
        return slot >= 0 && slot < SLOTS;
    }

    private boolean isWear(int machine, int wear) {
        return isMachine(machine) && wear >= 0 && wear < kinds[machine].wears;
    }

    private boolean isMending(int machine, int mending) {
        return isMachine(machine) && kinds[machine].hasMending(mending);
    }

    private int refusalOfPlan(int machine, int wear, int days, int p, int f) {
        if (!isWear(machine, wear)) {
            return UNKNOWN;
        }
        boolean asTold = days >= 1 && days <= PLAN_DAYS && p >= 1 && p <= 8 && f >= 0 && f <= 9;
        return asTold ? 0 : OUTSIDE;
    }

    private int refusalOfUnseen(int machine, int days) {
        if (!isMachine(machine)) {
            return UNKNOWN;
        }
        if (days < 1 || days > UNSEEN_DAYS) {
            return OUTSIDE;
        }
        return thoughts[machine].sumFrom(0) > UNSEEN_HEAVIEST ? STATE : 0;
    }

    private int refusalOfTwo(int machine, int wear, int other, int its, int days) {
        if (!isWear(machine, wear) || !isWear(other, its)) {
            return UNKNOWN;
        }
        return days < 1 || days > TWO_DAYS ? OUTSIDE : 0;
    }

    private boolean findBarCost(int machine, int mending, int bar) {
        for (int wear = 0; wear < WEARS; wear++) {
            barActs[wear] = wear >= bar ? mending + 1 : 0;
        }
        return chain.findCost(kinds[machine], barActs, fraction);
    }

    private int allMendings() {
        int all = 0;
        for (int i = 0; i < MACHINES; i++) {
            all += Integer.bitCount(kinds[i].mendingBits());
        }
        return all;
    }

    private static long power(long base, int times) {
        long product = 1;
        for (int i = 0; i < times; i++) {
            product *= base;
        }
        return product;
    }

    /** The bound is above the 92 steps that Euclid's way can take with longs. */
    private static long commonPart(long one, long other) {
        long a = one;
        long b = other;
        for (int i = 0; i < 128 && b != 0; i++) {
            long rest = a % b;
            a = b;
            b = rest;
        }
        return a;
    }

    /** A fraction of numbers that are not below 0, in least terms. */
    private static final class Fraction {
        long above;
        long below = 1;

        void become(long newAbove, long newBelow) {
            long part = commonPart(newAbove, newBelow);
            above = part > 1 ? newAbove / part : newAbove;
            below = part > 1 ? newBelow / part : newBelow;
        }

        long told(boolean upper) {
            return upper ? above : below;
        }

        /** Costs a day stay below 2 * 10^10 by 10^8, so that the products fit. */
        int compareWith(long otherAbove, long otherBelow) {
            return Long.compare(above * otherBelow, otherAbove * below);
        }
    }

    /** What a MACHINE is by its text. */
    private static final class Kind {
        int wears;
        int lookCost;
        int costToldBits;
        int knockToldBits;
        final int[] tenths = new int[WEARS * WEARS];
        final int[] leaves = new int[WEARS];
        final int[] dayCost = new int[WEARS];
        final int[] knockTenths = new int[WEARS];
        final int[] mendCost = new int[MENDINGS];
        final int[] mendWear = new int[MENDINGS];

        Kind() {
            begin(2);
        }

        void begin(int newWears) {
            wears = newWears;
            lookCost = NONE;
            costToldBits = 0;
            knockToldBits = 0;
            for (int i = 0; i < WEARS * WEARS; i++) {
                tenths[i] = 0;
            }
            for (int wear = 0; wear < WEARS; wear++) {
                tenths[wear * WEARS + wear] = TENTHS;
                leaves[wear] = 0;
                dayCost[wear] = 0;
                knockTenths[wear] = 0;
            }
            for (int i = 0; i < MENDINGS; i++) {
                mendCost[i] = 0;
                mendWear[i] = NONE;
            }
        }

        void copyFrom(Kind other) {
            wears = other.wears;
            lookCost = other.lookCost;
            costToldBits = other.costToldBits;
            knockToldBits = other.knockToldBits;
            System.arraycopy(other.tenths, 0, tenths, 0, WEARS * WEARS);
            System.arraycopy(other.leaves, 0, leaves, 0, WEARS);
            System.arraycopy(other.dayCost, 0, dayCost, 0, WEARS);
            System.arraycopy(other.knockTenths, 0, knockTenths, 0, WEARS);
            System.arraycopy(other.mendCost, 0, mendCost, 0, MENDINGS);
            System.arraycopy(other.mendWear, 0, mendWear, 0, MENDINGS);
        }

        boolean hasLook() {
            return lookCost != NONE;
        }

        boolean hasMending(int i) {
            return i >= 0 && i < MENDINGS && mendWear[i] != NONE;
        }

        int mendingBits() {
            int bits = 0;
            for (int i = 0; i < MENDINGS; i++) {
                bits |= hasMending(i) ? 1 << i : 0;
            }
            return bits;
        }

        void addWay(int from, int to, int chance) {
            tenths[from * WEARS + to] = chance;
            tenths[from * WEARS + from] -= chance;
            leaves[from] += chance;
        }

        /** WEARS to which a way from this one may still be told, as bits. */
        int openTargets(int from) {
            int bits = 0;
            for (int to = from + 1; to < wears && leaves[from] < TENTHS; to++) {
                bits |= tenths[from * WEARS + to] == 0 ? 1 << to : 0;
            }
            return bits;
        }

        int openSources() {
            int bits = 0;
            for (int from = 0; from < wears; from++) {
                bits |= openTargets(from) != 0 ? 1 << from : 0;
            }
            return bits;
        }

        long ruleCount() {
            return power(Integer.bitCount(mendingBits()) + 1, wears);
        }

        /**
         * Fills each WEAR's mean days times a scale, which is the answer; NONE where it may never break.
         * The scale holds every divisor on the way to the last WEAR, so that each division is exact.
         */
        long findLives(long[] into) {
            long scale = 1;
            for (int wear = 0; wear < wears; wear++) {
                scale *= leaves[wear] > 0 ? leaves[wear] : 1;
            }
            for (int wear = WEARS - 1; wear >= 0; wear--) {
                into[wear] = wear < wears - 1 ? scaledLife(wear, scale, into) : 0;
            }
            return scale;
        }

        private long scaledLife(int wear, long scale, long[] later) {
            if (leaves[wear] == 0) {
                return NONE;
            }
            long sum = TENTHS * scale;
            for (int to = wear + 1; to < wears; to++) {
                int way = tenths[wear * WEARS + to];
                if (way > 0 && later[to] < 0) {
                    return NONE;
                }
                sum += way * later[to];
            }
            return sum / leaves[wear];
        }
    }

    /** THE TEXT, and how it is read. */
    private static final class Text {
        private static final int ANY_FIGURE = 1023;
        private static final int NOT_ZERO = 1022;

        int length;
        private final int[] bytes = new int[BYTES];
        private int place;
        private int firstFault;

        int append(int n, long v) {
            if (length + n > BYTES) {
                return FULL;
            }
            for (int i = n - 1; i >= 0; i--) {
                bytes[length] = (int) (v >>> (8 * i)) & 255;
                length++;
            }
            return length;
        }

        /** Answers the FAULT; what stands in the kind is of use only where there is none. */
        int readInto(Kind kind) {
            place = 0;
            firstFault = NONE;
            readFirstPart(kind);
            for (int i = 0; i < BYTES && firstFault == NONE && place < length; i++) {
                readPart(kind);
            }
            return firstFault;
        }

        private void readFirstPart(Kind kind) {
            if (length == 0 || bytes[0] != 'N') {
                firstFault = 0;
                return;
            }
            place = 1;
            int wears = takeFigure(bitsBelow(WEARS + 1) & ~bitsBelow(2));
            if (wears >= 0) {
                kind.begin(wears);
            }
        }

        private void readPart(Kind kind) {
            switch (bytes[place]) {
                case 'S': readWay(kind); break;
                case 'C': readCost(kind); break;
                case 'K': readKnock(kind); break;
                case 'M': readMending(kind); break;
                case 'L': readLook(kind); break;
                default: firstFault = place;
            }
        }

        private void readWay(Kind kind) {
            int from = takeName(kind.openSources());
            int to = from < 0 ? NONE : takeFigure(kind.openTargets(from));
            int most = to < 0 ? 0 : TENTHS - kind.leaves[from];
            int chance = takeFigure(NOT_ZERO & bitsBelow(most + 1));
            if (chance >= 0) {
                kind.addWay(from, to, chance);
            }
        }

        private void readCost(Kind kind) {
            int wear = takeName(bitsBelow(kind.wears) & ~kind.costToldBits);
            int price = takePrice();
            if (price >= 0) {
                kind.costToldBits |= 1 << wear;
                kind.dayCost[wear] = price;
            }
        }

        private void readKnock(Kind kind) {
            int wear = takeName(bitsBelow(kind.wears) & ~kind.knockToldBits);
            int chance = takeFigure(NOT_ZERO);
            if (chance >= 0) {
                kind.knockToldBits |= 1 << wear;
                kind.knockTenths[wear] = chance;
            }
        }

        private void readMending(Kind kind) {
            int mending = takeName(bitsBelow(MENDINGS) & ~kind.mendingBits());
            int wear = takeFigure(bitsBelow(kind.wears - 1));
            int price = takePrice();
            if (price >= 0) {
                kind.mendWear[mending] = wear;
                kind.mendCost[mending] = price;
            }
        }

        private void readLook(Kind kind) {
            int price = takeName(kind.hasLook() ? 0 : ANY_FIGURE);
            if (price >= 0) {
                kind.lookCost = price;
            }
        }

        /** A letter behind which no figure could stand is itself at fault. */
        private int takeName(int allowed) {
            if (allowed == 0) {
                firstFault = place;
                return NONE;
            }
            place++;
            return takeFigure(allowed);
        }

        private int takePrice() {
            int ten = takeFigure(ANY_FIGURE);
            int one = takeFigure(ANY_FIGURE);
            return one < 0 ? NONE : 10 * ten + one;
        }

        /** Behind a fault nothing more is taken, so that callers need not ask after each figure. */
        private int takeFigure(int allowed) {
            if (firstFault != NONE) {
                return NONE;
            }
            int figure = place < length ? bytes[place] - '0' : NONE;
            if (figure < 0 || figure > 9 || (allowed >> figure & 1) == 0) {
                firstFault = place;
                return NONE;
            }
            place++;
            return figure;
        }

        private static int bitsBelow(int end) {
            return (1 << end) - 1;
        }
    }

    /** THE THOUGHT of a MACHINE: weights in least terms, never all 0. */
    private static final class Thought {
        final long[] weights = new long[WEARS];
        private final long[] next = new long[WEARS];

        Thought() {
            settle(0);
        }

        void settle(int wear) {
            for (int i = 0; i < WEARS; i++) {
                weights[i] = i == wear ? 1 : 0;
            }
        }

        void copyFrom(Thought other) {
            System.arraycopy(other.weights, 0, weights, 0, WEARS);
        }

        int passDay(Kind kind) {
            for (int to = 0; to < WEARS; to++) {
                long sum = 0;
                for (int from = 0; from <= to; from++) {
                    sum += weights[from] * kind.tenths[from * WEARS + to];
                }
                next[to] = sum;
            }
            return takeNext();
        }

        int takeKnock(Kind kind, boolean heard) {
            for (int wear = 0; wear < WEARS; wear++) {
                int chance = kind.knockTenths[wear];
                next[wear] = weights[wear] * (heard ? chance : TENTHS - chance);
            }
            return takeNext();
        }

        /** A row of THE LOG; what a refused row leaves behind is of no use. */
        int follow(Kind kind, int row) {
            if (row >= 2) {
                if (!kind.hasMending(row - 2)) {
                    return UNKNOWN;
                }
                settle(kind.mendWear[row - 2]);
                return 1;
            }
            int said = passDay(kind);
            return said < 0 ? said : takeKnock(kind, row == 1);
        }

        private int takeNext() {
            long part = 0;
            long most = 0;
            for (int wear = 0; wear < WEARS; wear++) {
                part = commonPart(part, next[wear]);
                most = Math.max(most, next[wear]);
            }
            if (part == 0) {
                return STATE;
            }
            if (most / part > HEAVIEST) {
                return FULL;
            }
            for (int wear = 0; wear < WEARS; wear++) {
                weights[wear] = next[wear] / part;
            }
            return 1;
        }

        long sumFrom(int bar) {
            long sum = 0;
            for (int wear = bar; wear < WEARS; wear++) {
                sum += weights[wear];
            }
            return sum;
        }

        long knockWeight(Kind kind) {
            long sum = 0;
            for (int wear = 0; wear < WEARS; wear++) {
                sum += weights[wear] * kind.knockTenths[wear];
            }
            return sum;
        }

        int heaviest() {
            int found = 0;
            for (int wear = 1; wear < WEARS; wear++) {
                found = weights[wear] > weights[found] ? wear : found;
            }
            return found;
        }
    }

    /** THE LOG. */
    private static final class Log {
        int length;
        final int[] row = new int[ROWS];

        int append(int newRow) {
            if (length >= ROWS) {
                return FULL;
            }
            row[length] = newRow;
            length++;
            return length;
        }

        void copyFrom(Log other) {
            length = other.length;
            System.arraycopy(other.row, 0, row, 0, ROWS);
        }
    }

    /** A SLOT: all THOUGHTS and THE LOG, with how often each MACHINE had been made by then. */
    private static final class Slot {
        boolean used;
        private final Thought[] thoughts = new Thought[MACHINES];
        private final int[] timesMade = new int[MACHINES];
        private final Log rows = new Log();

        Slot() {
            for (int i = 0; i < MACHINES; i++) {
                thoughts[i] = new Thought();
            }
        }

        int store(Thought[] from, int[] made, Log log) {
            for (int i = 0; i < MACHINES; i++) {
                thoughts[i].copyFrom(from[i]);
                timesMade[i] = made[i];
            }
            rows.copyFrom(log);
            int answer = used ? 0 : 1;
            used = true;
            return answer;
        }

        int restore(Thought[] into, int[] made, Log log) {
            int taken = 0;
            for (int i = 0; i < MACHINES; i++) {
                if (timesMade[i] == made[i]) {
                    into[i].copyFrom(thoughts[i]);
                    taken++;
                }
            }
            log.copyFrom(rows);
            return taken;
        }
    }

    /** The mornings of a MACHINE that is mended by a RULE. */
    private static final class Chain {
        private final int[] start = new int[WEARS];
        private final int[] price = new int[WEARS];
        private final int[] reach = new int[WEARS];
        private final int[] member = new int[WEARS];
        private final long[] grid = new long[WEARS * WEARS];
        private final long[] share = new long[WEARS];
        private int members;

        boolean findCost(Kind kind, int[] acts, Fraction into) {
            return obey(kind, acts) && settleCost(kind, into);
        }

        /** Whether all MENDINGS are there; then it is known where mornings lead. */
        boolean obey(Kind kind, int[] acts) {
            for (int wear = 0; wear < kind.wears; wear++) {
                int mending = acts[wear] - 1;
                if (mending >= 0 && !kind.hasMending(mending)) {
                    return false;
                }
                start[wear] = mending < 0 ? wear : kind.mendWear[mending];
                price[wear] = kind.dayCost[start[wear]] + (mending < 0 ? 0 : kind.mendCost[mending]);
            }
            spread(kind);
            return true;
        }

        /** Mornings that come from one at WEAR 0, it too, as bits. */
        int mornings() {
            return reach[0] | 1;
        }

        private void spread(Kind kind) {
            for (int wear = 0; wear < kind.wears; wear++) {
                int bits = 0;
                for (int to = start[wear]; to < kind.wears; to++) {
                    bits |= kind.tenths[start[wear] * WEARS + to] > 0 ? 1 << to : 0;
                }
                reach[wear] = bits;
            }
            for (int by = 0; by < kind.wears; by++) {
                for (int wear = 0; wear < kind.wears; wear++) {
                    if ((reach[wear] >> by & 1) != 0) {
                        reach[wear] |= reach[by];
                    }
                }
            }
        }

        boolean settleCost(Kind kind, Fraction into) {
            if (!findMembers(kind) || !findShares(kind)) {
                return false;
            }
            long above = 0;
            long below = 0;
            for (int i = 0; i < members; i++) {
                above += share[i] * price[member[i]];
                below += share[i];
            }
            into.become(above, below);
            return true;
        }

        /**
         * What all mornings lead to is the one set that is always come to again;
         * were there two such sets, nothing would be in common.
         */
        private boolean findMembers(Kind kind) {
            int common = mornings();
            for (int wear = 0; wear < kind.wears; wear++) {
                common &= (mornings() >> wear & 1) != 0 ? reach[wear] : common;
            }
            members = 0;
            for (int wear = 0; wear < kind.wears; wear++) {
                if ((common >> wear & 1) != 0) {
                    member[members] = wear;
                    members++;
                }
            }
            return members > 0;
        }

        /**
         * How often each member is come to, in whole numbers: balance at each but the last,
         * solved with divisions that come out even (all numbers in it are determinants below 20^7).
         */
        private boolean findShares(Kind kind) {
            int size = members - 1;
            fillGrid(kind, size);
            long before = 1;
            for (int k = 0; k < size; k++) {
                long pivot = grid[k * WEARS + k];
                if (pivot == 0) {
                    return false;
                }
                for (int row = k + 1; row < size; row++) {
                    clearRow(row, k, size, before);
                }
                before = pivot;
            }
            share[size] = before;
            for (int i = size - 1; i >= 0; i--) {
                long sum = grid[i * WEARS + size] * before;
                for (int j = i + 1; j < size; j++) {
                    sum -= grid[i * WEARS + j] * share[j];
                }
                share[i] = sum / grid[i * WEARS + i];
            }
            return true;
        }

        private void fillGrid(Kind kind, int size) {
            for (int row = 0; row < size; row++) {
                for (int i = 0; i <= size; i++) {
                    int into = kind.tenths[start[member[i]] * WEARS + member[row]];
                    grid[row * WEARS + i] = i == size ? into : (i == row ? TENTHS : 0) - into;
                }
            }
        }

        private void clearRow(int row, int k, int size, long divisor) {
            long pivot = grid[k * WEARS + k];
            long lead = grid[row * WEARS + k];
            for (int i = k + 1; i <= size && divisor != 0; i++) {
                long crossed = grid[row * WEARS + i] * pivot - lead * grid[k * WEARS + i];
                grid[row * WEARS + i] = crossed / divisor;
            }
        }
    }

    /** THE BEST RULE of a MACHINE; found once, since only a new MACHINE changes it. */
    private static final class BestRule {
        int number = NONE;
        final Fraction least = new Fraction();
        private final Fraction cost = new Fraction();
        private final int[] acts = new int[WEARS];
        private final int[] choices = new int[ACTS];
        private int base;
        private boolean known;

        void forget() {
            known = false;
        }

        void find(Kind kind, Chain chain) {
            if (known) {
                return;
            }
            known = true;
            number = NONE;
            listChoices(kind);
            long end = Math.min(kind.ruleCount(), MOST_RULES);
            for (int i = 0; i < end; i++) {
                int candidate = numberOf(kind, i);
                if (chain.obey(kind, acts) && !isIdle(kind, chain.mornings()) && chain.settleCost(kind, cost)
                        && (number == NONE || cost.compareWith(least.above, least.below) < 0)) {
                    number = candidate;
                    least.become(cost.above, cost.below);
                }
            }
        }

        private void listChoices(Kind kind) {
            base = 1;
            choices[0] = 0;
            for (int i = 0; i < MENDINGS; i++) {
                if (kind.hasMending(i)) {
                    choices[base] = i + 1;
                    base++;
                }
            }
        }

        /** Choices rise, so that the i-th RULE has the i-th number of all that may be. */
        private int numberOf(Kind kind, int i) {
            int rest = i;
            int worth = 1;
            int sum = 0;
            for (int wear = kind.wears - 1; wear >= 0 && base > 0; wear--) {
                acts[wear] = choices[rest % base];
                rest = rest / base;
                sum += acts[wear] * worth;
                worth *= ACTS;
            }
            return sum;
        }

        /** A MENDING on mornings that never come costs nothing, but a lesser number does the same. */
        private boolean isIdle(Kind kind, int mornings) {
            for (int wear = 0; wear < kind.wears; wear++) {
                if (acts[wear] != 0 && (mornings >> wear & 1) == 0) {
                    return true;
                }
            }
            return false;
        }
    }

    /** A PLAN: with some days left, costs are held times 10 for each of these days but the last. */
    private static final class Plan {
        long least;
        int firstAct;
        private int chosen;
        private final long[] later = new long[WEARS];
        private final long[] run = new long[WEARS];

        void find(Kind kind, int wear, int days, int p, int f) {
            for (int i = 0; i < WEARS; i++) {
                later[i] = 0;
            }
            long scale = 1;
            for (int morning = days - 1; morning >= 0; morning--) {
                for (int i = 0; i < kind.wears; i++) {
                    run[i] = goOn(kind, i, scale);
                }
                boolean mender = p > 0 && morning % p == 0;
                for (int i = 0; i < kind.wears; i++) {
                    choose(kind, i, mender ? morning * f : NONE, scale);
                    if (i == wear) {
                        least = later[i];
                        firstAct = chosen;
                    }
                }
                scale *= TENTHS;
            }
        }

        private long goOn(Kind kind, int wear, long scale) {
            long sum = kind.dayCost[wear] * scale;
            for (int to = wear; to < kind.wears; to++) {
                sum += kind.tenths[wear * WEARS + to] * later[to];
            }
            return sum;
        }

        /** A fall of NONE: no mender comes. */
        private void choose(Kind kind, int wear, int fall, long scale) {
            chosen = 0;
            later[wear] = run[wear];
            for (int i = 0; i < MENDINGS && fall != NONE; i++) {
                if (kind.hasMending(i)) {
                    long cost = Math.max(0, kind.mendCost[i] - fall) * scale + run[kind.mendWear[i]];
                    if (cost < later[wear]) {
                        later[wear] = cost;
                        chosen = i + 1;
                    }
                }
            }
        }
    }

    /**
     * UNSEEN. Weights are never made less: a DAY and a knock make them a hundred times as heavy,
     * and so costs with some days left are held times 100 for each of these days but the last.
     */
    private static final class Unseen {
        long least;
        int firstAct;
        private final long[] weights = new long[(UNSEEN_DAYS + 1) * WEARS];
        private final long[] run = new long[(UNSEEN_DAYS + 1) * WEARS];
        private final long[] seen = new long[(UNSEEN_DAYS + 1) * WEARS];

        void find(Kind kind, Thought thought, int days) {
            for (int left = 1; left <= days; left++) {
                learn(kind, left);
            }
            System.arraycopy(thought.weights, 0, weights, days * WEARS, WEARS);
            least = choose(kind, days);
        }

        /** What it costs from each WEAR that is known, with so many days left. */
        private void learn(Kind kind, int left) {
            int base = left * WEARS;
            for (int wear = 0; wear < kind.wears; wear++) {
                for (int i = 0; i < WEARS; i++) {
                    weights[base + i] = i == wear ? 1 : 0;
                }
                run[base + wear] = goOn(kind, left);
            }
            for (int wear = 0; wear < kind.wears; wear++) {
                seen[base + wear] = run[base + wear];
                for (int i = 0; i < MENDINGS; i++) {
                    if (kind.hasMending(i)) {
                        seen[base + wear] = Math.min(seen[base + wear], mended(kind, i, left));
                    }
                }
            }
        }

        private long mended(Kind kind, int i, int left) {
            return kind.mendCost[i] * power(TENTHS * TENTHS, left - 1) + run[left * WEARS + kind.mendWear[i]];
        }

        /** The first ACT is set last by the outermost call. */
        private long choose(Kind kind, int left) {
            long lowest = goOn(kind, left);
            int act = 0;
            long all = 0;
            long looked = 0;
            for (int wear = 0; wear < kind.wears; wear++) {
                all += weights[left * WEARS + wear];
                looked += weights[left * WEARS + wear] * seen[left * WEARS + wear];
            }
            for (int i = 0; i < MENDINGS; i++) {
                if (kind.hasMending(i) && all * mended(kind, i, left) < lowest) {
                    lowest = all * mended(kind, i, left);
                    act = i + 1;
                }
            }
            looked += all * kind.lookCost * power(TENTHS * TENTHS, left - 1);
            if (kind.hasLook() && looked < lowest) {
                lowest = looked;
                act = LOOK_ACT;
            }
            firstAct = act;
            return lowest;
        }

        private long goOn(Kind kind, int left) {
            long sum = 0;
            for (int wear = 0; wear < kind.wears; wear++) {
                sum += weights[left * WEARS + wear] * kind.dayCost[wear];
            }
            sum *= power(TENTHS * TENTHS, left - 1);
            if (left > 1) {
                passDay(kind, left, true);
                sum += choose(kind, left - 1);
                passDay(kind, left, false);
                sum += choose(kind, left - 1);
            }
            return sum;
        }

        private void passDay(Kind kind, int left, boolean heard) {
            for (int to = 0; to < kind.wears; to++) {
                long sum = 0;
                for (int from = 0; from <= to; from++) {
                    sum += weights[left * WEARS + from] * kind.tenths[from * WEARS + to];
                }
                int chance = kind.knockTenths[to];
                weights[(left - 1) * WEARS + to] = sum * (heard ? chance : TENTHS - chance);
            }
        }
    }

    /** TWO MACHINES, with costs held as in a PLAN. */
    private static final class Two {
        private long[] now = new long[WEARS * WEARS];
        private long[] later = new long[WEARS * WEARS];
        private final int[] runner = new int[WEARS * WEARS];

        long least(int wear, int its) {
            return now[wear * WEARS + its];
        }

        int first(int wear, int its) {
            return runner[wear * WEARS + its];
        }

        void find(Kind one, Kind other, int days) {
            for (int i = 0; i < WEARS * WEARS; i++) {
                now[i] = 0;
            }
            long scale = 1;
            for (int left = 1; left <= days; left++) {
                long[] free = later;
                later = now;
                now = free;
                for (int wear = 0; wear < one.wears; wear++) {
                    for (int its = 0; its < other.wears; its++) {
                        choose(one, wear, other, its, scale);
                    }
                }
                scale *= TENTHS;
            }
        }

        private void choose(Kind one, int wear, Kind other, int its, long scale) {
            long first = one.dayCost[wear] * scale;
            for (int to = wear; to < one.wears; to++) {
                first += one.tenths[wear * WEARS + to] * later[to * WEARS + its];
            }
            long second = other.dayCost[its] * scale;
            for (int to = its; to < other.wears; to++) {
                second += other.tenths[its * WEARS + to] * later[wear * WEARS + to];
            }
            now[wear * WEARS + its] = Math.min(first, second);
            runner[wear * WEARS + its] = second < first ? 1 : 0;
        }
    }
}
