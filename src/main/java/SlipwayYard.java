import java.util.Arrays;
import java.util.NoSuchElementException;

/**
 * A yard where ships are built from blocks: nets of works and waits, work days, hulls, blocks, slips,
 * cranes and delays. The document (../shared/DOC.md) says what each method promises.
 *
 * All rows are made in the constructors and used again, because nothing that a run makes is given back.
 */
public final class SlipwayYard {
    public static final int NONE = -1;
    public static final int ENDS_BEGINS = 0, BEGINS_BEGINS = 1, ENDS_ENDS = 2, BEGINS_ENDS = 3;

    private static final int MOST_WORKS = 16;
    private static final int MOST_WAITS = 40;
    private static final int MOST_TIME = 60;
    private static final int MOST_PRICE = 1000;
    private static final int MOST_MEANS = 9;
    private static final int MOST_LAG = 30;
    private static final int MOST_LENGTH = 2000;
    private static final int MOST_PLANS = 5000;
    private static final int CAUSERS = 4;
    private static final int MOST_DELAY = 60;
    private static final int MOST_BYTES = 200;
    private static final int WEEK = 7;
    private static final int LAST_DAY = 400;
    private static final int LAST_LIFT_DAY = 500;
    private static final int MOST_WORK_DAY = 2000;
    private static final int MOST_PLATES = 20;
    private static final int MOST_BLOCKS = 20;
    private static final int MOST_SIDE = 9;
    private static final int MOST_CELL_WEIGHT = 99;
    private static final int LAST_PLACE = 99;
    private static final int MOST_SLIPS = 3;
    private static final int MOST_SLIP_LENGTH = 100;
    private static final int MOST_STANDS = 20;
    private static final int MOST_STAND_DAYS = 100;
    private static final int MOST_CRANES = 4;
    private static final int MOST_LIFTS = 30;
    private static final int MOST_LOAD = 100000;

    private final Net net = new Net();
    private final NetText text = new NetText();
    private final Plan plan = new Plan();
    private final Shortening shortening = new Shortening();
    private final Peaks peaks = new Peaks();
    private final Calendar calendar = new Calendar();
    private final Hull hull = new Hull();
    private final Cargo cargo = new Cargo();
    private final Slip[] slips = new Slip[MOST_SLIPS];
    private int slipCount;
    private final Crane[] cranes = new Crane[MOST_CRANES];
    private int craneCount;
    private final Checks checks = new Checks();

    public SlipwayYard() {
        for (int slip = 0; slip < MOST_SLIPS; slip++) {
            slips[slip] = new Slip();
        }
        for (int crane = 0; crane < MOST_CRANES; crane++) {
            cranes[crane] = new Crane();
        }
    }

    // Texts

    public int type(long bytes) throws IllegalStateException {
        if (!text.append(bytes)) {
            throw new IllegalStateException("the text would be too long");
        }
        return text.size;
    }

    public int clearText() {
        int before = text.size;
        text.size = 0;
        return before;
    }

    public int errorKind() {
        text.examine();
        return text.kind;
    }

    public int errorPlace() {
        text.examine();
        return text.place;
    }

    public int read() throws IllegalStateException {
        if (!text.examine()) {
            throw new IllegalStateException("the text has an error");
        }
        net.become(text.draft);
        return net.count;
    }

    // Nets

    public int work(int time, int least, int price, int means)
            throws IllegalArgumentException, IllegalStateException {
        if (!isWithin(time, 0, MOST_TIME) || !isWithin(least, 0, time)) {
            throw new IllegalArgumentException("a time is out of range");
        }
        if (!isWithin(price, 0, MOST_PRICE) || !isWithin(means, 0, MOST_MEANS)) {
            throw new IllegalArgumentException("the price or the means are out of range");
        }
        if (net.count >= MOST_WORKS) {
            throw new IllegalStateException("there are 16 works");
        }
        int made = net.addWork(time, least);
        net.price[made] = price;
        net.means[made] = means;
        net.arrange();
        return made;
    }

    public int set(int work, int what, int value) throws IndexOutOfBoundsException, IllegalArgumentException {
        needWork(work);
        int[] row = net.means;
        int from = 0;
        int upTo = MOST_MEANS;
        if (what == 0) {
            row = net.time;
            from = net.least[work];
            upTo = MOST_TIME;
        } else if (what == 1) {
            row = net.least;
            upTo = net.time[work];
        } else if (what == 2) {
            row = net.price;
            upTo = MOST_PRICE;
        }
        if (!isWithin(what, 0, 3) || !isWithin(value, from, upTo)) {
            throw new IllegalArgumentException("what or the value is out of range");
        }
        int was = row[work];
        row[work] = value;
        return was;
    }

    public int waits(int work, int other, int sort, int lag)
            throws IndexOutOfBoundsException, IllegalArgumentException, IllegalStateException {
        needWork(work);
        needWork(other);
        if (!isWithin(sort, ENDS_BEGINS, BEGINS_ENDS) || !isWithin(lag, 0, MOST_LAG)) {
            throw new IllegalArgumentException("the sort or the lag is out of range");
        }
        if (!net.canWait(work, other)) {
            throw new IllegalStateException("a work would wait for itself, or there are 40 waits");
        }
        net.addWait(work, other, sort, lag);
        net.arrange();
        return net.waitCount;
    }

    public int drop(int wait) throws IndexOutOfBoundsException {
        if (!isWithin(wait, 0, net.waitCount - 1)) {
            throw new IndexOutOfBoundsException("there is no such wait");
        }
        net.removeWait(wait);
        net.arrange();
        return net.waitCount;
    }

    public int clearNet() {
        int before = net.count;
        net.clear();
        return before;
    }

    public int works() {
        return net.count;
    }

    public int early(int work) throws IndexOutOfBoundsException {
        needWork(work);
        plan.countFirst(net);
        return plan.first[work];
    }

    public int late(int work) throws IndexOutOfBoundsException {
        needWork(work);
        plan.countBoth(net);
        return plan.last[work];
    }

    public int play(int work) throws IndexOutOfBoundsException {
        needWork(work);
        plan.countBoth(net);
        return plan.playOf(work);
    }

    public int length() {
        plan.countFirst(net);
        return plan.end;
    }

    public long rows() {
        plan.countFirst(net);
        return plan.countRows(net);
    }

    public int rowAt(int index) throws IndexOutOfBoundsException {
        plan.countFirst(net);
        plan.findRow(net);
        if (index == NONE) {
            return plan.rowSize;
        }
        if (!isWithin(index, 0, plan.rowSize - 1)) {
            throw new IndexOutOfBoundsException("the row has no such work");
        }
        return plan.row[index];
    }

    public long cost(int length) throws IllegalArgumentException {
        if (!isWithin(length, 0, MOST_LENGTH)) {
            throw new IllegalArgumentException("the length is out of range");
        }
        return net.isPlain() ? shortening.leastCost(net, plan, length) : NONE;
    }

    public int shortest() {
        if (!net.isPlain()) {
            return NONE;
        }
        return plan.countLeastEnd(net);
    }

    public int peak() {
        plan.countFirst(net);
        return peaks.ofEarliest(net, plan);
    }

    public int leastPeak() throws IllegalStateException {
        plan.countBoth(net);
        if (plan.countChoices(net) > MOST_PLANS) {
            throw new IllegalStateException("the works have too much play");
        }
        return peaks.least(net, plan);
    }

    public double meanPlay() {
        if (net.count == 0) {
            return 0.0;
        }
        plan.countBoth(net);
        int sum = 0;
        for (int work = 0; work < net.count; work++) {
            sum += plan.playOf(work);
        }
        return (double) sum / (double) net.count;
    }

    // Work days

    public boolean rest(int weekday) throws IllegalArgumentException, IllegalStateException {
        if (!isWithin(weekday, 0, WEEK - 1)) {
            throw new IllegalArgumentException("the weekday is out of range");
        }
        if (!calendar.isResting[weekday] && calendar.countWeek() == 1) {
            throw new IllegalStateException("all weekdays would be days of rest");
        }
        calendar.isResting[weekday] = !calendar.isResting[weekday];
        return calendar.isResting[weekday];
    }

    public boolean free(int day) throws IllegalArgumentException {
        if (!isWithin(day, 0, LAST_DAY)) {
            throw new IllegalArgumentException("the day is out of range");
        }
        calendar.isFree[day] = !calendar.isFree[day];
        return calendar.isFree[day];
    }

    public int dayOf(int number) throws IllegalArgumentException {
        if (!isWithin(number, 0, MOST_WORK_DAY)) {
            throw new IllegalArgumentException("the number is out of range");
        }
        return calendar.find(number);
    }

    // Hulls and blocks

    public int plate(long corners) throws IllegalArgumentException, IllegalStateException {
        if (!hull.draw(corners)) {
            throw new IllegalArgumentException("these are no corners of a plate");
        }
        if (hull.count >= MOST_PLATES) {
            throw new IllegalStateException("there are 20 plates");
        }
        return hull.addDrawn();
    }

    public int openEdges() {
        return hull.countOpen();
    }

    public boolean isClosed() {
        return hull.count > 0 && hull.countOpen() == 0;
    }

    public int block(int length, int width, int height, int weight)
            throws IllegalArgumentException, IllegalStateException {
        if (!isWithin(length, 1, MOST_SIDE) || !isWithin(width, 1, MOST_SIDE) || !isWithin(height, 1, MOST_SIDE)) {
            throw new IllegalArgumentException("a side is out of range");
        }
        if (!isWithin(weight, 1, MOST_CELL_WEIGHT)) {
            throw new IllegalArgumentException("the weight is out of range");
        }
        if (cargo.count >= MOST_BLOCKS) {
            throw new IllegalStateException("there are 20 blocks");
        }
        return cargo.add(length, width, height, weight);
    }

    public boolean put(int block, int x, int y, int z) throws IndexOutOfBoundsException, IllegalArgumentException {
        needBlock(block);
        if (!isWithin(x, 0, LAST_PLACE) || !isWithin(y, 0, LAST_PLACE) || !isWithin(z, 0, LAST_PLACE)) {
            throw new IllegalArgumentException("a place is out of range");
        }
        if (!cargo.hasRoom(block, x, y, z)) {
            return false;
        }
        cargo.place(block, x, y, z);
        return true;
    }

    public boolean takeAway(int block) throws IndexOutOfBoundsException {
        needBlock(block);
        boolean was = cargo.isPut[block];
        cargo.isPut[block] = false;
        return was;
    }

    public long weight() {
        return cargo.sumWeights();
    }

    public long middle(int direction, boolean isUnder) throws IllegalArgumentException, NoSuchElementException {
        if (!isWithin(direction, 0, Cargo.DIRECTIONS - 1)) {
            throw new IllegalArgumentException("the direction is out of range");
        }
        if (cargo.countPut() == 0) {
            throw new NoSuchElementException("nothing is put");
        }
        return fraction(cargo.sumTwiceMiddles(direction), 2 * cargo.sumWeights(), isUnder);
    }

    public long trim(int place) throws IllegalArgumentException {
        if (!isWithin(place, 0, LAST_PLACE)) {
            throw new IllegalArgumentException("the place is out of range");
        }
        return cargo.sumTwiceMiddles(0) - 2 * place * cargo.sumWeights();
    }

    public float putShare() {
        if (cargo.count == 0) {
            return 0.0f;
        }
        return (float) cargo.countPut() / (float) cargo.count;
    }

    // Slips and cranes

    public int slip(int length) throws IllegalArgumentException, IllegalStateException {
        if (!isWithin(length, 1, MOST_SLIP_LENGTH)) {
            throw new IllegalArgumentException("the length is out of range");
        }
        if (slipCount >= MOST_SLIPS) {
            throw new IllegalStateException("there are 3 slips");
        }
        slips[slipCount].size = length;
        slipCount++;
        return slipCount - 1;
    }

    public boolean stand(int slip, int place, int length, int day, int days)
            throws IndexOutOfBoundsException, IllegalArgumentException, IllegalStateException {
        needSlip(slip);
        Slip on = slips[slip];
        if (!isWithin(place, 0, on.size - 1) || !isWithin(length, 1, on.size - place)) {
            throw new IllegalArgumentException("the place or the length is out of range");
        }
        if (!isWithin(day, 0, LAST_DAY) || !isWithin(days, 1, MOST_STAND_DAYS)) {
            throw new IllegalArgumentException("the day or the days are out of range");
        }
        if (on.count >= MOST_STANDS) {
            throw new IllegalStateException("the slip has 20 stands");
        }
        if (!on.hasRoom(place, length, day, days)) {
            return false;
        }
        on.add(place, length, day, days);
        return true;
    }

    public int firstStand(int slip, int length, int days, boolean isPlace)
            throws IndexOutOfBoundsException, IllegalArgumentException {
        needSlip(slip);
        Slip on = slips[slip];
        if (!isWithin(length, 1, on.size) || !isWithin(days, 1, MOST_STAND_DAYS)) {
            throw new IllegalArgumentException("the length or the days are out of range");
        }
        int day = on.findDay(length, days);
        return isPlace ? on.findPlace(length, day, days) : day;
    }

    public int crane(int strength) throws IllegalArgumentException, IllegalStateException {
        if (!isWithin(strength, 1, MOST_LOAD)) {
            throw new IllegalArgumentException("the strength is out of range");
        }
        if (craneCount >= MOST_CRANES) {
            throw new IllegalStateException("there are 4 cranes");
        }
        cranes[craneCount].strength = strength;
        craneCount++;
        return craneCount - 1;
    }

    public boolean lift(int crane, int day, int place, int weight)
            throws IndexOutOfBoundsException, IllegalArgumentException, IllegalStateException {
        needCrane(crane);
        needLift(day, place, weight);
        if (cranes[crane].count >= MOST_LIFTS) {
            throw new IllegalStateException("the crane has 30 lifts");
        }
        if (!canLift(crane, day, place, weight)) {
            return false;
        }
        cranes[crane].add(day, place);
        return true;
    }

    public int nextLift(int crane, int from, int place, int weight)
            throws IndexOutOfBoundsException, IllegalArgumentException {
        needCrane(crane);
        needLift(from, place, weight);
        for (int day = from; day <= LAST_LIFT_DAY; day++) {
            if (canLift(crane, day, place, weight)) {
                return day;
            }
        }
        return NONE;
    }

    // Claims

    public int delay(int work, int causer, int days) throws IndexOutOfBoundsException, IllegalArgumentException {
        needWork(work);
        if (!isWithin(causer, 0, CAUSERS - 1) || !isWithin(days, 0, MOST_DELAY)) {
            throw new IllegalArgumentException("the causer or the days are out of range");
        }
        int index = work * CAUSERS + causer;
        int was = net.delays[index];
        net.delays[index] = days;
        return was;
    }

    public int lateLength(int causers) throws IllegalArgumentException {
        if (!isWithin(causers, 0, (1 << CAUSERS) - 1)) {
            throw new IllegalArgumentException("the causers are out of range");
        }
        return plan.countLateEnd(net, causers);
    }

    public long claim(int causer, boolean isUnder) throws IllegalArgumentException {
        if (!isWithin(causer, 0, CAUSERS - 1)) {
            throw new IllegalArgumentException("the causer is out of range");
        }
        return fraction(plan.sumOfOrders(net, causer), Plan.ORDERS, isUnder);
    }

    public int errors() {
        int found = checks.countInNet(net, plan) + checks.countInCosts(net, shortening);
        for (int slip = 0; slip < slipCount; slip++) {
            found += slips[slip].countClashes();
        }
        return found + checks.countInParts(net, plan);
    }

    // What several calls need

    private static boolean isWithin(int value, int from, int upTo) {
        return value >= from && value <= upTo;
    }

    private void needWork(int work) throws IndexOutOfBoundsException {
        if (!isWithin(work, 0, net.count - 1)) {
            throw new IndexOutOfBoundsException("there is no such work");
        }
    }

    private void needBlock(int block) throws IndexOutOfBoundsException {
        if (!isWithin(block, 0, cargo.count - 1)) {
            throw new IndexOutOfBoundsException("there is no such block");
        }
    }

    private void needSlip(int slip) throws IndexOutOfBoundsException {
        if (!isWithin(slip, 0, slipCount - 1)) {
            throw new IndexOutOfBoundsException("there is no such slip");
        }
    }

    private void needCrane(int crane) throws IndexOutOfBoundsException {
        if (!isWithin(crane, 0, craneCount - 1)) {
            throw new IndexOutOfBoundsException("there is no such crane");
        }
    }

    private static void needLift(int day, int place, int weight) throws IllegalArgumentException {
        if (!isWithin(day, 0, LAST_DAY) || !isWithin(place, 0, LAST_PLACE) || !isWithin(weight, 1, MOST_LOAD)) {
            throw new IllegalArgumentException("the day, the place or the weight is out of range");
        }
    }

    private boolean canLift(int crane, int day, int place, int weight) {
        if (weight > cranes[crane].strength || !cranes[crane].canBeAt(day, place)) {
            return false;
        }
        for (int other = 0; other < craneCount; other++) {
            int there = cranes[other].placeOn(day);
            boolean isInTheWay = other < crane && there >= place || other > crane && there <= place;
            if (there != NONE && isInTheWay) {
                return false;
            }
        }
        return true;
    }

    /** What is above or below the line of a fraction in lowest terms; below must be above 0. */
    private static long fraction(long above, long below, boolean isUnder) {
        long divisor = Math.max(1, commonDivisor(Math.abs(above), below));
        return isUnder ? below / divisor : above / divisor;
    }

    private static long commonDivisor(long one, long two) {
        long greater = one;
        long lesser = two;
        // a long needs less than 100 steps here
        for (int step = 0; step < 200 && lesser != 0; step++) {
            long rest = greater % lesser;
            greater = lesser;
            lesser = rest;
        }
        return greater;
    }

    /** Works, their delays and their waits, which never lead in a circle. */
    private static final class Net {
        int count;
        final int[] time = new int[MOST_WORKS];
        final int[] least = new int[MOST_WORKS];
        final int[] price = new int[MOST_WORKS];
        final int[] means = new int[MOST_WORKS];
        final int[] delays = new int[MOST_WORKS * CAUSERS];
        int waitCount;
        final int[] waiter = new int[MOST_WAITS];
        final int[] awaited = new int[MOST_WAITS];
        final int[] sort = new int[MOST_WAITS];
        final int[] lag = new int[MOST_WAITS];
        /** For each work those for which it waits, also through others: a bit for each. */
        final int[] needs = new int[MOST_WORKS];
        /** The works, each behind all those for which it waits. */
        final int[] order = new int[MOST_WORKS];
        /** The waits in the order of the works that wait. */
        final int[] ordered = new int[MOST_WAITS];

        void clear() {
            count = 0;
            waitCount = 0;
        }

        int addWork(int itsTime, int itsLeast) {
            int made = count;
            time[made] = itsTime;
            least[made] = itsLeast;
            price[made] = 0;
            means[made] = 0;
            needs[made] = 0;
            for (int causer = 0; causer < CAUSERS; causer++) {
                delays[made * CAUSERS + causer] = 0;
            }
            count++;
            return made;
        }

        boolean canWait(int work, int other) {
            return work != other && !needsOther(other, work) && waitCount < MOST_WAITS;
        }

        private boolean needsOther(int work, int other) {
            return (needs[work] >> other & 1) != 0;
        }

        void addWait(int work, int other, int itsSort, int itsLag) {
            waiter[waitCount] = work;
            awaited[waitCount] = other;
            sort[waitCount] = itsSort;
            lag[waitCount] = itsLag;
            waitCount++;
            spreadNeeds(work, other);
        }

        private void spreadNeeds(int work, int other) {
            int more = needs[other] | 1 << other;
            for (int third = 0; third < count; third++) {
                if (third == work || needsOther(third, work)) {
                    needs[third] |= more;
                }
            }
        }

        void removeWait(int wait) {
            waitCount--;
            for (int k = wait; k < waitCount; k++) {
                waiter[k] = waiter[k + 1];
                awaited[k] = awaited[k + 1];
                sort[k] = sort[k + 1];
                lag[k] = lag[k + 1];
            }
            Arrays.fill(needs, 0);
            for (int k = 0; k < waitCount; k++) {
                spreadNeeds(waiter[k], awaited[k]);
            }
        }

        void become(Net other) {
            clear();
            for (int work = 0; work < other.count; work++) {
                addWork(other.time[work], other.least[work]);
            }
            for (int k = 0; k < other.waitCount; k++) {
                addWait(other.waiter[k], other.awaited[k], other.sort[k], other.lag[k]);
            }
            arrange();
        }

        /** To be called when works or waits have come or gone. */
        void arrange() {
            int placed = 0;
            int waitsPlaced = 0;
            // a work needs more works than each of those that it needs, so this number is an order
            for (int needed = 0; needed < MOST_WORKS; needed++) {
                for (int work = 0; work < count; work++) {
                    if (Integer.bitCount(needs[work]) == needed) {
                        order[placed] = work;
                        placed++;
                        waitsPlaced = placeWaitsOf(work, waitsPlaced);
                    }
                }
            }
        }

        private int placeWaitsOf(int work, int placed) {
            int next = placed;
            for (int k = 0; k < waitCount; k++) {
                if (waiter[k] == work) {
                    ordered[next] = k;
                    next++;
                }
            }
            return next;
        }

        /** Whether all waits are of the sort ENDS_BEGINS. */
        boolean isPlain() {
            for (int k = 0; k < waitCount; k++) {
                if (sort[k] != ENDS_BEGINS) {
                    return false;
                }
            }
            return true;
        }
    }

    /** The text, and the net that is read from it. */
    private static final class NetText {
        static final int BLANK = 32;
        final int[] bytes = new int[MOST_BYTES];
        int size;
        final Net draft = new Net();
        int kind;
        int place;
        private int at;

        boolean append(long number) {
            int more = 0;
            for (int shift = 56; shift >= 0; shift -= 8) {
                if ((number >>> shift & 255) != 0) {
                    more++;
                }
            }
            if (size + more > MOST_BYTES) {
                return false;
            }
            for (int shift = 56; shift >= 0; shift -= 8) {
                int sign = (int) (number >>> shift & 255);
                if (sign != 0) {
                    bytes[size] = sign;
                    size++;
                }
            }
            return true;
        }

        /** Reads the text into the draft; tells whether it has no error, else its kind and place stand. */
        boolean examine() {
            draft.clear();
            kind = 0;
            place = NONE;
            at = 0;
            // each clause takes a byte at least
            for (int clause = 0; clause <= size; clause++) {
                if (!takeClause()) {
                    return false;
                }
                if (signAhead() == NONE) {
                    return true;
                }
                if (signAhead() != ';') {
                    return fail(1, at);
                }
                at++;
            }
            return true;
        }

        private boolean fail(int itsKind, int itsPlace) {
            kind = itsKind;
            place = itsPlace;
            return false;
        }

        /** The next byte that is no blank, NONE at the end; the reading stands there then. */
        private int signAhead() {
            while (at < size && bytes[at] == BLANK) {
                at++;
            }
            return at < size ? bytes[at] : NONE;
        }

        private boolean takeClause() {
            int letter = signAhead();
            int letterAt = at;
            if (!isLetter(letter)) {
                return fail(1, at);
            }
            at++;
            int sign = signAhead();
            if (sign == '=') {
                at++;
                return takeWork(letter - 'a', letterAt);
            }
            int sort = sortOf(sign);
            if (sort == NONE) {
                return fail(1, at);
            }
            at++;
            return takeWait(letter - 'a', letterAt, sort);
        }

        private static boolean isLetter(int sign) {
            return sign >= 'a' && sign <= 'p';
        }

        private static int sortOf(int sign) {
            switch (sign) {
                case '>':
                    return ENDS_BEGINS;
                case '^':
                    return BEGINS_BEGINS;
                case '_':
                    return ENDS_ENDS;
                case '<':
                    return BEGINS_ENDS;
                default:
                    return NONE;
            }
        }

        private boolean takeWork(int work, int letterAt) {
            if (work != draft.count) {
                return fail(3, letterAt);
            }
            int time = takeNumber(MOST_TIME);
            if (time == NONE) {
                return false;
            }
            int least = time;
            if (signAhead() == '/') {
                at++;
                least = takeNumber(time);
                if (least == NONE) {
                    return false;
                }
            }
            draft.addWork(time, least);
            return true;
        }

        private boolean takeWait(int other, int letterAt, int sort) {
            if (other >= draft.count) {
                return fail(3, letterAt);
            }
            int letter = signAhead();
            if (!isLetter(letter)) {
                return fail(1, at);
            }
            int work = letter - 'a';
            if (work >= draft.count) {
                return fail(3, at);
            }
            if (!draft.canWait(work, other)) {
                return fail(4, at);
            }
            at++;
            int lag = 0;
            if (signAhead() == '+') {
                at++;
                lag = takeNumber(MOST_LAG);
                if (lag == NONE) {
                    return false;
                }
            }
            draft.addWait(work, other, sort, lag);
            return true;
        }

        private static boolean isDigit(int sign) {
            return sign >= '0' && sign <= '9';
        }

        /** A number from 0 up to most; NONE if there is an error. */
        private int takeNumber(int most) {
            if (!isDigit(signAhead())) {
                fail(1, at);
                return NONE;
            }
            int start = at;
            int value = 0;
            while (at < size && isDigit(bytes[at])) {
                // however many digits follow, what is too much stays so and stays small
                value = Math.min(MOST_TIME + 1, value * 10 + bytes[at] - '0');
                at++;
            }
            if (value > most) {
                fail(2, start);
                return NONE;
            }
            return value;
        }
    }

    /** The beginnings of the works of a net by times that it takes from there, and what follows from them. */
    private static final class Plan {
        static final int ORDERS = 24;
        final int[] time = new int[MOST_WORKS];
        final int[] first = new int[MOST_WORKS];
        final int[] last = new int[MOST_WORKS];
        int end;
        /** For each work how many ways lead from it to the end of a longest row. */
        final long[] ways = new long[MOST_WORKS];
        final int[] row = new int[MOST_WORKS];
        int rowSize;

        void countFirst(Net net) {
            takeTimes(net, 0);
            passForward(net);
        }

        void countBoth(Net net) {
            countFirst(net);
            passBack(net);
        }

        /** The times, longer by the delays of a set of causers. */
        private void takeTimes(Net net, int causers) {
            for (int work = 0; work < net.count; work++) {
                time[work] = net.time[work];
                for (int causer = 0; causer < CAUSERS; causer++) {
                    if ((causers >> causer & 1) != 0) {
                        time[work] += net.delays[work * CAUSERS + causer];
                    }
                }
            }
        }

        /** The end if all works take their least times. */
        int countLeastEnd(Net net) {
            for (int work = 0; work < net.count; work++) {
                time[work] = net.least[work];
            }
            passForward(net);
            return end;
        }

        /** By how much the beginning of the work that waits is behind that of the other one, at least. */
        int gap(Net net, int wait) {
            int sort = net.sort[wait];
            int gap = net.lag[wait];
            if (sort == ENDS_BEGINS || sort == ENDS_ENDS) {
                gap += time[net.awaited[wait]];
            }
            if (sort == ENDS_ENDS || sort == BEGINS_ENDS) {
                gap -= time[net.waiter[wait]];
            }
            return gap;
        }

        void passForward(Net net) {
            for (int work = 0; work < net.count; work++) {
                first[work] = 0;
            }
            for (int k = 0; k < net.waitCount; k++) {
                int wait = net.ordered[k];
                int work = net.waiter[wait];
                first[work] = Math.max(first[work], first[net.awaited[wait]] + gap(net, wait));
            }
            end = 0;
            for (int work = 0; work < net.count; work++) {
                end = Math.max(end, first[work] + time[work]);
            }
        }

        private void passBack(Net net) {
            for (int work = 0; work < net.count; work++) {
                last[work] = end - time[work];
            }
            for (int k = net.waitCount - 1; k >= 0; k--) {
                int wait = net.ordered[k];
                int other = net.awaited[wait];
                last[other] = Math.min(last[other], last[net.waiter[wait]] - gap(net, wait));
            }
        }

        int playOf(int work) {
            return last[work] - first[work];
        }

        /** The product of all plays, each and 1; what is above the limit need not be right. */
        int countChoices(Net net) {
            int product = 1;
            for (int work = 0; work < net.count && product <= MOST_PLANS; work++) {
                product *= playOf(work) + 1;
            }
            return product;
        }

        /** Whether this wait alone tells the earliest beginning of the work that waits. */
        boolean isTight(Net net, int wait) {
            return first[net.waiter[wait]] == first[net.awaited[wait]] + gap(net, wait);
        }

        long countRows(Net net) {
            countWays(net);
            long sum = 0;
            for (int work = 0; work < net.count; work++) {
                if (first[work] == 0) {
                    sum += ways[work];
                }
            }
            return sum;
        }

        private void countWays(Net net) {
            for (int work = 0; work < net.count; work++) {
                ways[work] = first[work] + time[work] == end ? 1 : 0;
            }
            for (int k = net.waitCount - 1; k >= 0; k--) {
                int wait = net.ordered[k];
                if (isTight(net, wait)) {
                    ways[net.awaited[wait]] += ways[net.waiter[wait]];
                }
            }
        }

        void findRow(Net net) {
            countWays(net);
            rowSize = 0;
            int work = findStart(net);
            for (int step = 0; step < MOST_WORKS && work != NONE; step++) {
                row[rowSize] = work;
                rowSize++;
                work = findNext(net, work);
            }
        }

        private int findStart(Net net) {
            for (int work = 0; work < net.count; work++) {
                if (first[work] == 0 && ways[work] > 0) {
                    return work;
                }
            }
            return NONE;
        }

        private int findNext(Net net, int work) {
            int next = NONE;
            for (int k = 0; k < net.waitCount; k++) {
                int behind = net.waiter[k];
                boolean isOnRow = net.awaited[k] == work && ways[behind] > 0 && isTight(net, k);
                if (isOnRow && (next == NONE || behind < next)) {
                    next = behind;
                }
            }
            return next;
        }

        int countLateEnd(Net net, int causers) {
            takeTimes(net, causers);
            passForward(net);
            return end;
        }

        /** How much later a causer makes the end, added up over all orders of the causers. */
        int sumOfOrders(Net net, int causer) {
            int own = 1 << causer;
            int sum = 0;
            for (int ahead = 0; ahead < 1 << CAUSERS; ahead++) {
                if ((ahead & own) == 0) {
                    int more = countLateEnd(net, ahead | own) - countLateEnd(net, ahead);
                    sum += countOrders(Integer.bitCount(ahead)) * more;
                }
            }
            return sum;
        }

        /** How many orders have just these so many causers ahead of the one that is looked at. */
        private static int countOrders(int ahead) {
            return ahead == 0 || ahead == CAUSERS - 1 ? 6 : 2;
        }
    }

    /**
     * The least cost of being done sooner. It is the greatest worth of a flow from the beginning of all to the end
     * of all, in which a unit on a way is worth how much longer than the length the way is: a work lets as many
     * units as its price through at its time, and any number at its least time. The flow is sent along the longest
     * ways that are left, until none is longer than the length.
     */
    private static final class Shortening {
        static final int SOURCE = 0;
        static final int SINK = 1;
        static final int MOST_NODES = 2 + 2 * MOST_WORKS;
        static final int MOST_ARCS = 2 * (4 * MOST_WORKS + MOST_WAITS);
        static final int MOST_FLOW = MOST_WORKS * MOST_PRICE;
        /** More than any flow can use up. */
        static final int NO_LIMIT = 4 * MOST_FLOW;
        private int nodes;
        private int arcs;
        /** The arc k + 1 leads back for an even arc k. */
        private final int[] from = new int[MOST_ARCS];
        private final int[] to = new int[MOST_ARCS];
        private final int[] span = new int[MOST_ARCS];
        private final int[] room = new int[MOST_ARCS];
        private final int[] reach = new int[MOST_NODES];
        private final int[] reachedBy = new int[MOST_NODES];

        /** NONE if it cannot be done; all waits must be of the sort ENDS_BEGINS. The trial's times are changed. */
        long leastCost(Net net, Plan trial, int length) {
            if (trial.countLeastEnd(net) > length) {
                return NONE;
            }
            build(net);
            long cost = 0;
            // a way that is longer than the length has a time with a price, so no more than MOST_FLOW units are sent
            for (int turn = 0; turn <= MOST_FLOW; turn++) {
                findLongest();
                // without works there is no way at all, and NONE is below each length
                if (reach[SINK] <= length) {
                    return cost;
                }
                int units = findRoom();
                send(units);
                cost += (long) units * (reach[SINK] - length);
            }
            return NONE;
        }

        private static int beginOf(int work) {
            return 2 + 2 * work;
        }

        private static int endOf(int work) {
            return 3 + 2 * work;
        }

        private void build(Net net) {
            nodes = 2 + 2 * net.count;
            arcs = 0;
            int waitsAdded = 0;
            // in the order of the works, so that the first round already finds the longest ways
            for (int k = 0; k < net.count; k++) {
                int work = net.order[k];
                addArc(SOURCE, beginOf(work), 0, NO_LIMIT);
                while (waitsAdded < net.waitCount && net.waiter[net.ordered[waitsAdded]] == work) {
                    int wait = net.ordered[waitsAdded];
                    addArc(endOf(net.awaited[wait]), beginOf(work), net.lag[wait], NO_LIMIT);
                    waitsAdded++;
                }
                addArc(beginOf(work), endOf(work), net.least[work], NO_LIMIT);
                addArc(beginOf(work), endOf(work), net.time[work], net.price[work]);
                addArc(endOf(work), SINK, 0, NO_LIMIT);
            }
        }

        private void addArc(int itsFrom, int itsTo, int itsSpan, int itsRoom) {
            from[arcs] = itsFrom;
            to[arcs] = itsTo;
            span[arcs] = itsSpan;
            room[arcs] = itsRoom;
            from[arcs + 1] = itsTo;
            to[arcs + 1] = itsFrom;
            span[arcs + 1] = -itsSpan;
            room[arcs + 1] = 0;
            arcs += 2;
        }

        private void findLongest() {
            for (int node = 0; node < nodes; node++) {
                reach[node] = NONE;
                reachedBy[node] = NONE;
            }
            reach[SOURCE] = 0;
            boolean isMoving = true;
            for (int round = 0; round <= nodes && isMoving; round++) {
                isMoving = improve();
            }
        }

        private boolean improve() {
            boolean isMoving = false;
            for (int arc = 0; arc < arcs; arc++) {
                int node = from[arc];
                if (room[arc] > 0 && reach[node] != NONE && reach[node] + span[arc] > reach[to[arc]]) {
                    reach[to[arc]] = reach[node] + span[arc];
                    reachedBy[to[arc]] = arc;
                    isMoving = true;
                }
            }
            return isMoving;
        }

        private int findRoom() {
            int units = NO_LIMIT;
            int node = SINK;
            for (int step = 0; step < MOST_NODES && reachedBy[node] != NONE; step++) {
                int arc = reachedBy[node];
                units = Math.min(units, room[arc]);
                node = from[arc];
            }
            return units;
        }

        private void send(int units) {
            int node = SINK;
            for (int step = 0; step < MOST_NODES && reachedBy[node] != NONE; step++) {
                int arc = reachedBy[node];
                room[arc] -= units;
                room[arc ^ 1] += units;
                node = from[arc];
            }
        }
    }

    /** The means of the works of a plan, day by day. */
    private static final class Peaks {
        /** Ends are not above this: 16 works in a row, 15 lags between them. */
        static final int MOST_DAYS = MOST_WORKS * MOST_TIME + (MOST_WORKS - 1) * MOST_LAG;
        private final int[] load = new int[MOST_DAYS];
        private final int[] begin = new int[MOST_WORKS];
        private final int[] moving = new int[MOST_WORKS];
        private int movingCount;
        private int best;
        private int floor;

        int ofEarliest(Net net, Plan plan) {
            Arrays.fill(load, 0);
            int high = 0;
            for (int work = 0; work < net.count; work++) {
                high = Math.max(high, raise(net, work, plan.first[work], net.means[work]));
            }
            return high;
        }

        /** Adds means on the days of a work; tells the greatest sum there then. */
        private int raise(Net net, int work, int from, int means) {
            int high = 0;
            int end = Math.min(MOST_DAYS, from + net.time[work]);
            for (int day = Math.max(0, from); day < end; day++) {
                load[day] += means;
                high = Math.max(high, load[day]);
            }
            return high;
        }

        int least(Net net, Plan plan) {
            best = ofEarliest(net, plan);
            Arrays.fill(load, 0);
            movingCount = 0;
            int high = 0;
            floor = meanLoad(net, plan.end);
            for (int k = 0; k < net.count; k++) {
                int work = net.order[k];
                begin[work] = plan.first[work];
                if (plan.playOf(work) == 0) {
                    high = Math.max(high, raise(net, work, begin[work], net.means[work]));
                } else {
                    moving[movingCount] = work;
                    movingCount++;
                }
            }
            search(this, net, plan, 0, high);
            return best;
        }

        /** No plan has a peak below the mean of the days, nor below the means of a work. */
        private static int meanLoad(Net net, int days) {
            int sum = 0;
            int most = 0;
            for (int work = 0; work < net.count; work++) {
                sum += net.time[work] * net.means[work];
                if (net.time[work] > 0) {
                    most = Math.max(most, net.means[work]);
                }
            }
            return days > 0 ? Math.max(most, (sum + days - 1) / days) : 0;
        }

        /** Tries all beginnings of the moving works from one on; those ahead of it have theirs. */
        private static void search(Peaks peaks, Net net, Plan plan, int depth, int high) {
            if (high >= peaks.best || peaks.best <= peaks.floor) {
                return;
            }
            if (depth >= peaks.movingCount) {
                peaks.best = high;
                return;
            }
            int work = peaks.moving[depth];
            int from = peaks.findFirst(net, plan, work);
            // a work without load only hinders others when it begins later
            int upTo = net.means[work] * net.time[work] == 0 ? from : plan.last[work];
            for (int day = from; day <= upTo; day++) {
                peaks.begin[work] = day;
                int there = peaks.raise(net, work, day, net.means[work]);
                search(peaks, net, plan, depth + 1, Math.max(high, there));
                peaks.raise(net, work, day, -net.means[work]);
            }
        }

        /** The earliest beginning behind the works that have theirs; no later one than the latest follows. */
        private int findFirst(Net net, Plan plan, int work) {
            int from = 0;
            for (int k = 0; k < net.waitCount; k++) {
                if (net.waiter[k] == work) {
                    from = Math.max(from, begin[net.awaited[k]] + plan.gap(net, k));
                }
            }
            return from;
        }
    }

    /** Days of rest, free days and work days. */
    private static final class Calendar {
        /** Whole weeks, behind all days that can be free: from here on all weeks are the same. */
        static final int SAME_FROM = (LAST_DAY / WEEK + 1) * WEEK;
        final boolean[] isResting = new boolean[WEEK];
        final boolean[] isFree = new boolean[LAST_DAY + 1];

        int countWeek() {
            int sum = 0;
            for (int weekday = 0; weekday < WEEK; weekday++) {
                if (!isResting[weekday]) {
                    sum++;
                }
            }
            return sum;
        }

        private boolean isWorkDay(int day) {
            return !isResting[day % WEEK] && (day > LAST_DAY || !isFree[day]);
        }

        int find(int number) {
            int ahead = 0;
            for (int day = 0; day < SAME_FROM; day++) {
                if (isWorkDay(day)) {
                    if (ahead == number) {
                        return day;
                    }
                    ahead++;
                }
            }
            int perWeek = Math.max(1, countWeek());
            int weeks = (number - ahead) / perWeek;
            ahead += weeks * perWeek;
            return findWithin(SAME_FROM + weeks * WEEK, number - ahead);
        }

        private int findWithin(int firstOfWeek, int number) {
            int ahead = 0;
            for (int day = firstOfWeek; day < firstOfWeek + WEEK; day++) {
                if (isWorkDay(day)) {
                    if (ahead == number) {
                        return day;
                    }
                    ahead++;
                }
            }
            return NONE;
        }
    }

    /** Plates, and which edges they have. */
    private static final class Hull {
        static final int CORNERS = 31;
        static final int LEAST_CORNERS = 3;
        static final int MOST_CORNERS = 6;
        int count;
        private final int[] sizes = new int[MOST_PLATES];
        private final int[] corners = new int[MOST_PLATES * MOST_CORNERS];
        /** For each corner a bit for each corner to which an edge of a plate, or of two and more, leads. */
        private final int[] once = new int[CORNERS];
        private final int[] twice = new int[CORNERS];
        private final int[] drawn = new int[MOST_CORNERS];
        private int drawnSize;

        /** Takes the corners of a plate apart; tells whether they are some. */
        boolean draw(long number) {
            drawnSize = countPairs(number);
            if (drawnSize < LEAST_CORNERS || drawnSize > MOST_CORNERS) {
                return false;
            }
            long rest = number;
            int seen = 0;
            for (int k = drawnSize - 1; k >= 0; k--) {
                int corner = (int) (rest % 100);
                if (corner >= CORNERS || (seen >> corner & 1) != 0) {
                    return false;
                }
                seen |= 1 << corner;
                drawn[k] = corner;
                rest /= 100;
            }
            return true;
        }

        private static int countPairs(long number) {
            int pairs = 0;
            long rest = number;
            // a long has at most ten pairs of digits
            for (int k = 0; k < 10 && rest > 0; k++) {
                pairs++;
                rest /= 100;
            }
            return pairs;
        }

        int addDrawn() {
            sizes[count] = drawnSize;
            for (int k = 0; k < drawnSize; k++) {
                int corner = drawn[k];
                int next = drawn[k + 1 < drawnSize ? k + 1 : 0];
                corners[count * MOST_CORNERS + k] = corner;
                twice[corner] |= once[corner] & 1 << next;
                once[corner] |= 1 << next;
            }
            count++;
            return count - 1;
        }

        int countOpen() {
            int open = 0;
            for (int plate = 0; plate < count; plate++) {
                int start = plate * MOST_CORNERS;
                for (int k = 0; k < sizes[plate]; k++) {
                    int next = k + 1 < sizes[plate] ? k + 1 : 0;
                    if (isOpen(corners[start + k], corners[start + next])) {
                        open++;
                    }
                }
            }
            return open;
        }

        private boolean isOpen(int corner, int next) {
            boolean isMetOnce = has(once, next, corner) && !has(twice, next, corner);
            return !isMetOnce || has(twice, corner, next);
        }

        private static boolean has(int[] edges, int corner, int next) {
            return (edges[corner] >> next & 1) != 0;
        }
    }

    /** Blocks, and where they are put. */
    private static final class Cargo {
        static final int DIRECTIONS = 3;
        int count;
        final boolean[] isPut = new boolean[MOST_BLOCKS];
        private final int[] cellWeight = new int[MOST_BLOCKS];
        /** Sides and least corners, those of the three directions of a block one behind the other. */
        private final int[] side = new int[MOST_BLOCKS * DIRECTIONS];
        private final int[] corner = new int[MOST_BLOCKS * DIRECTIONS];

        int add(int length, int width, int height, int itsWeight) {
            int at = count * DIRECTIONS;
            side[at] = length;
            side[at + 1] = width;
            side[at + 2] = height;
            cellWeight[count] = itsWeight;
            isPut[count] = false;
            count++;
            return count - 1;
        }

        boolean hasRoom(int block, int x, int y, int z) {
            for (int other = 0; other < count; other++) {
                boolean isThere = other != block && isPut[other];
                if (isThere && meets(block, other, 0, x) && meets(block, other, 1, y) && meets(block, other, 2, z)) {
                    return false;
                }
            }
            return true;
        }

        /** Whether a block, with its least corner there, has a cell's breadth of a direction with another one. */
        private boolean meets(int block, int other, int direction, int there) {
            int own = block * DIRECTIONS + direction;
            int its = other * DIRECTIONS + direction;
            return there < corner[its] + side[its] && corner[its] < there + side[own];
        }

        void place(int block, int x, int y, int z) {
            int at = block * DIRECTIONS;
            corner[at] = x;
            corner[at + 1] = y;
            corner[at + 2] = z;
            isPut[block] = true;
        }

        int countPut() {
            int sum = 0;
            for (int block = 0; block < count; block++) {
                if (isPut[block]) {
                    sum++;
                }
            }
            return sum;
        }

        private long weightOf(int block) {
            int at = block * DIRECTIONS;
            return (long) cellWeight[block] * side[at] * side[at + 1] * side[at + 2];
        }

        long sumWeights() {
            long sum = 0;
            for (int block = 0; block < count; block++) {
                if (isPut[block]) {
                    sum += weightOf(block);
                }
            }
            return sum;
        }

        /** The weights times the middles, twice so that it is whole. */
        long sumTwiceMiddles(int direction) {
            long sum = 0;
            for (int block = 0; block < count; block++) {
                int at = block * DIRECTIONS + direction;
                if (isPut[block]) {
                    sum += weightOf(block) * (2 * corner[at] + side[at]);
                }
            }
            return sum;
        }
    }

    /** A slip and its stands. */
    private static final class Slip {
        int size;
        int count;
        private final int[] place = new int[MOST_STANDS];
        private final int[] breadth = new int[MOST_STANDS];
        private final int[] day = new int[MOST_STANDS];
        private final int[] days = new int[MOST_STANDS];

        boolean hasRoom(int itsPlace, int itsBreadth, int itsDay, int itsDays) {
            for (int k = 0; k < count; k++) {
                boolean hasPlace = itsPlace < place[k] + breadth[k] && place[k] < itsPlace + itsBreadth;
                boolean hasDay = itsDay < day[k] + days[k] && day[k] < itsDay + itsDays;
                if (hasPlace && hasDay) {
                    return false;
                }
            }
            return true;
        }

        void add(int itsPlace, int itsBreadth, int itsDay, int itsDays) {
            place[count] = itsPlace;
            breadth[count] = itsBreadth;
            day[count] = itsDay;
            days[count] = itsDays;
            count++;
        }

        /** The first day with a place: day 0, or one at which a stand has just ended. */
        int findDay(int itsBreadth, int itsDays) {
            int found = NONE;
            for (int k = -1; k < count; k++) {
                int from = k < 0 ? 0 : day[k] + days[k];
                boolean isSooner = found == NONE || from < found;
                if (isSooner && findPlace(itsBreadth, from, itsDays) != NONE) {
                    found = from;
                }
            }
            return found;
        }

        /** The least place on a day: place 0, or one at which a stand just ends. */
        int findPlace(int itsBreadth, int itsDay, int itsDays) {
            int found = NONE;
            for (int k = -1; k < count; k++) {
                int from = k < 0 ? 0 : place[k] + breadth[k];
                boolean isLess = found == NONE || from < found;
                if (isLess && from + itsBreadth <= size && hasRoom(from, itsBreadth, itsDay, itsDays)) {
                    found = from;
                }
            }
            return found;
        }

        /** How many pairs of stands have a place and a day in common, and how many stands leave the slip. */
        int countClashes() {
            int clashes = 0;
            for (int k = 0; k < count; k++) {
                if (place[k] < 0 || place[k] + breadth[k] > size) {
                    clashes++;
                }
                for (int other = 0; other < k; other++) {
                    int places = common(place[k], breadth[k], place[other], breadth[other]);
                    if (places > 0 && common(day[k], days[k], day[other], days[other]) > 0) {
                        clashes++;
                    }
                }
            }
            return clashes;
        }

        private static int common(int from, int size, int otherFrom, int otherSize) {
            return Math.min(from + size, otherFrom + otherSize) - Math.max(from, otherFrom);
        }
    }

    /** A crane and its lifts. */
    private static final class Crane {
        static final int PLACES_A_DAY = 5;
        int strength;
        int count;
        private final int[] day = new int[MOST_LIFTS];
        private final int[] place = new int[MOST_LIFTS];

        void add(int itsDay, int itsPlace) {
            day[count] = itsDay;
            place[count] = itsPlace;
            count++;
        }

        boolean canBeAt(int itsDay, int itsPlace) {
            for (int k = 0; k < count; k++) {
                int way = Math.abs(itsPlace - place[k]);
                if (itsDay == day[k] || way > PLACES_A_DAY * Math.abs(itsDay - day[k])) {
                    return false;
                }
            }
            return true;
        }

        int placeOn(int itsDay) {
            for (int k = 0; k < count; k++) {
                if (day[k] == itsDay) {
                    return place[k];
                }
            }
            return NONE;
        }
    }

    /** The checks of errors(): the same facts once more, by other ways. */
    private static final class Checks {
        static final int MOST_WAYS = 500;
        static final int LENGTHS = 4;
        private final Plan trial = new Plan();
        private final boolean[] isReached = new boolean[MOST_WORKS];
        private final long[] costs = new long[LENGTHS];

        int countInNet(Net net, Plan plan) {
            plan.countBoth(net);
            plan.countRows(net);
            int wrong = 0;
            for (int k = 0; k < net.waitCount; k++) {
                int gap = plan.gap(net, k);
                int work = net.waiter[k];
                int other = net.awaited[k];
                wrong += plan.first[work] < plan.first[other] + gap ? 1 : 0;
                wrong += plan.last[work] < plan.last[other] + gap ? 1 : 0;
            }
            markReached(net, plan);
            for (int work = 0; work < net.count; work++) {
                boolean isOnRow = isReached[work] && plan.ways[work] > 0;
                wrong += isOnRow != (plan.playOf(work) == 0) ? 1 : 0;
            }
            return wrong;
        }

        /** Marks the works to which a longest row can lead. */
        private void markReached(Net net, Plan plan) {
            for (int work = 0; work < net.count; work++) {
                isReached[work] = plan.first[work] == 0;
            }
            for (int k = 0; k < net.waitCount; k++) {
                int wait = net.ordered[k];
                if (isReached[net.awaited[wait]] && plan.isTight(net, wait)) {
                    isReached[net.waiter[wait]] = true;
                }
            }
        }

        int countInCosts(Net net, Shortening shortening) {
            int ways = countWaysToShorten(net);
            if (!net.isPlain() || ways > MOST_WAYS) {
                return 0;
            }
            trial.countFirst(net);
            int length = trial.end;
            Arrays.fill(costs, NONE);
            for (int way = 0; way < ways; way++) {
                tryWay(net, way, length);
            }
            int wrong = 0;
            for (int less = 0; less < LENGTHS && less <= length; less++) {
                wrong += shortening.leastCost(net, trial, length - less) != costs[less] ? 1 : 0;
            }
            return wrong;
        }

        /** What is above the limit need not be right. */
        private static int countWaysToShorten(Net net) {
            int product = 1;
            for (int work = 0; work < net.count && product <= MOST_WAYS; work++) {
                product *= net.time[work] - net.least[work] + 1;
            }
            return product;
        }

        private void tryWay(Net net, int way, int length) {
            int rest = way;
            long cost = 0;
            for (int work = 0; work < net.count; work++) {
                int choices = Math.max(1, net.time[work] - net.least[work] + 1);
                int shorter = rest % choices;
                rest /= choices;
                trial.time[work] = net.time[work] - shorter;
                cost += (long) shorter * net.price[work];
            }
            trial.passForward(net);
            for (int less = 0; less < LENGTHS; less++) {
                boolean isLeast = costs[less] == NONE || cost < costs[less];
                if (trial.end <= length - less && isLeast) {
                    costs[less] = cost;
                }
            }
        }

        /** The parts of all causers are together what all of them make later. */
        int countInParts(Net net, Plan plan) {
            int sum = 0;
            for (int causer = 0; causer < CAUSERS; causer++) {
                sum += plan.sumOfOrders(net, causer);
            }
            int all = plan.countLateEnd(net, (1 << CAUSERS) - 1) - plan.countLateEnd(net, 0);
            return sum == Plan.ORDERS * all ? 0 : 1;
        }
    }
}
