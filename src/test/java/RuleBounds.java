/** Section 1: exceptions, numbers and fractions, for all calls. */
final class RuleBounds {
    private static final String PART = "Section 1";
    private static final int LEAST = Integer.MIN_VALUE;
    private static final int GREATEST = Integer.MAX_VALUE;

    private RuleBounds() {
    }

    static void all() {
        Bounds.of("What it is", "An object is used for at most 512 calls after it has been made",
                RuleBounds::lastCall);
        Bounds.none("What it is", "what later calls answer is free");
        Bounds.of(PART, "If several exceptions apply to a call, the one that is listed first is thrown",
                RuleBounds::firstListed);
        Bounds.of(PART, "a call that throws an exception changes nothing", RuleBounds::nothingChanges);
        Bounds.of(PART, "An IndexOutOfBoundsException is thrown for a work", RuleBounds::noSuchWork);
        Bounds.of(PART, "a wait, ", RuleBounds::noSuchWait);
        Bounds.of(PART, "a block, a slip or a crane that does not exist", RuleBounds::noSuchThing);
        Bounds.of(PART, "Everything is numbered from 0 in the order in which it is made", RuleBounds::numbers);
        Bounds.of(PART, "A fraction is told in lowest terms", RuleBounds::lowestTerms);
        Bounds.of(PART, "what is below its line above 0", RuleBounds::belowTheLine);
        Bounds.of(PART, "(0 is 0 / 1)", RuleBounds::zero);
    }

    /** 511 calls, a third of them refused, and the 512th answers as it should. */
    private static void lastCall() {
        // three calls type and read the text
        SlipwayYard x = Due.net("a=5;b=3;a>b+2");
        for (int call = 4; call < 512; call++) {
            int day = call % 3;
            if (day == 0) {
                Due.argument("call " + call, () -> x.free(401));
            } else {
                boolean due = (call / 3) % 2 == 1;
                Due.is("call " + call, due, () -> x.free(day));
            }
        }
        Due.is("the 512th call", 10, x::length);
    }

    private static int[] wrong(int below, int above) {
        return new int[] {below, above, LEAST, GREATEST};
    }

    private static void firstListed() {
        orderOfNet();
        orderOfBlocks();
        orderOfYard();
        Bounds.order("rest", new int[] {3}, new int[][] {wrong(-1, 7)}, 0, Yards::busy, Bounds.STATE, Yards::oneWorkDay,
                (x, v) -> x.rest(v[0]));
    }

    private static void orderOfNet() {
        Bounds.order("work", new int[] {5, 2, 10, 2}, new int[][] {wrong(-1, 61), wrong(-1, 6), wrong(-1, 1001),
            wrong(-1, 10)}, 0, Yards::busy, Bounds.STATE, Yards::fullNet, (x, v) -> x.work(v[0], v[1], v[2], v[3]));
        Bounds.order("set", new int[] {0, 0, 60}, new int[][] {wrong(-1, 5), wrong(-1, 4), wrong(-1, 61)}, 1, Yards::busy,
                null, null, (x, v) -> x.set(v[0], v[1], v[2]));
        int[][] wrongWait = {wrong(-1, 16), wrong(-1, 16), wrong(-1, 4), wrong(-1, 31)};
        Bounds.order("waits, the 41st", new int[] {9, 0, 0, 3}, wrongWait, 2, Yards::fullNet, Bounds.STATE, Yards::fullNet,
                (x, v) -> x.waits(v[0], v[1], v[2], v[3]));
        Bounds.order("waits in a circle", new int[] {0, 3, 2, 3}, wrongWait, 2, Yards::busy, Bounds.STATE, Yards::busy,
                (x, v) -> x.waits(v[0], v[1], v[2], v[3]));
        Bounds.order("waits for itself", new int[] {2, 2, 3, 0}, wrongWait, 2, Yards::busy, Bounds.STATE, Yards::busy,
                (x, v) -> x.waits(v[0], v[1], v[2], v[3]));
        Bounds.order("delay", new int[] {0, 0, 60}, new int[][] {wrong(-1, 5), wrong(-1, 4), wrong(-1, 61)}, 1, Yards::busy,
                null, null, (x, v) -> x.delay(v[0], v[1], v[2]));
    }

    private static void orderOfBlocks() {
        Bounds.order("block", new int[] {9, 9, 9, 99}, new int[][] {wrong(0, 10), wrong(0, 10), wrong(0, 10), wrong(0, 100)},
                0, Yards::busy, Bounds.STATE, Yards::fullYard, (x, v) -> x.block(v[0], v[1], v[2], v[3]));
        Bounds.order("put", new int[] {0, 0, 0, 0}, new int[][] {wrong(-1, 3), wrong(-1, 100), wrong(-1, 100),
            wrong(-1, 100)}, 1, Yards::busy, null, null, (x, v) -> x.put(v[0], v[1], v[2], v[3]));
        Bounds.order("middle", new int[] {2}, new int[][] {wrong(-1, 3)}, 0, Yards::busy, Bounds.ELEMENT, Yards::empty,
                (x, v) -> x.middle(v[0], false));
        long[] noPlates = {0, -1, 102, 10201, 10231, 1020304050607L, Long.MIN_VALUE, Long.MAX_VALUE};
        for (long corners : noPlates) {
            Bounds.refuses("plate(" + corners + ")", Bounds.ARGUMENT, Yards::busy, x -> x.plate(corners));
            Bounds.refuses("a 21st plate(" + corners + ")", Bounds.ARGUMENT, Yards::fullYard, x -> x.plate(corners));
        }
        Bounds.refuses("a 21st plate(10203)", Bounds.STATE, Yards::fullYard, x -> x.plate(10203));
    }

    private static void orderOfYard() {
        Bounds.order("slip", new int[] {100}, new int[][] {wrong(0, 101)}, 0, Yards::busy, Bounds.STATE, Yards::fullYard,
                (x, v) -> x.slip(v[0]));
        Bounds.order("stand", new int[] {0, 9, 1, 400, 1}, new int[][] {wrong(-1, 3), wrong(-1, 20), wrong(0, 101),
            wrong(-1, 401), wrong(0, 101)}, 1, Yards::busy, Bounds.STATE, Yards::fullYard,
                (x, v) -> x.stand(v[0], v[1], v[2], v[3], v[4]));
        Bounds.order("firstStand", new int[] {0, 10, 1}, new int[][] {wrong(-1, 2), wrong(0, 11), wrong(0, 101)}, 1,
                Yards::busy, null, null, (x, v) -> x.firstStand(v[0], v[1], v[2], true));
        Bounds.order("crane", new int[] {1}, new int[][] {wrong(0, 100001)}, 0, Yards::busy, Bounds.STATE, Yards::fullYard,
                (x, v) -> x.crane(v[0]));
        int[][] wrongLift = {wrong(-1, 4), wrong(-1, 401), wrong(-1, 100), wrong(0, 100001)};
        Bounds.order("lift", new int[] {0, 400, 0, 1}, wrongLift, 1, Yards::busy, Bounds.STATE, Yards::fullYard,
                (x, v) -> x.lift(v[0], v[1], v[2], v[3]));
        Bounds.order("nextLift", new int[] {0, 400, 0, 1}, wrongLift, 1, Yards::busy, null, null,
                (x, v) -> x.nextLift(v[0], v[1], v[2], v[3]));
    }

    /** Calls with one exception; those with several are looked at by firstListed(). */
    private static void nothingChanges() {
        Bounds.refuses("type of 8 bytes behind 200", Bounds.STATE, Yards::fullNet, x -> x.type(0x613D313B623D3161L));
        Bounds.refuses("read() of an empty text", Bounds.STATE, RuleBounds::busyWithoutText, SlipwayYard::read);
        Bounds.refuses("rowAt behind the row", Bounds.INDEX, Yards::busy, x -> x.rowAt(x.rowAt(-1)));
        Bounds.refuses("leastPeak() of too much play", Bounds.STATE, RuleBounds::tooMuchPlay, SlipwayYard::leastPeak);
        Bounds.refuses("cost(2001)", Bounds.ARGUMENT, Yards::busy, x -> x.cost(2001));
        Bounds.refuses("free(401)", Bounds.ARGUMENT, Yards::busy, x -> x.free(401));
        Bounds.refuses("dayOf(2001)", Bounds.ARGUMENT, Yards::busy, x -> x.dayOf(2001));
        Bounds.refuses("trim(100)", Bounds.ARGUMENT, Yards::busy, x -> x.trim(100));
        Bounds.refuses("lateLength(16)", Bounds.ARGUMENT, Yards::busy, x -> x.lateLength(16));
        Bounds.refuses("claim(4, true)", Bounds.ARGUMENT, Yards::busy, x -> x.claim(4, true));
    }

    private static SlipwayYard busyWithoutText() {
        SlipwayYard x = Yards.busy();
        x.clearText();
        return x;
    }

    private static SlipwayYard tooMuchPlay() {
        SlipwayYard x = Yards.busy();
        for (int k = 0; k < 5; k++) {
            x.work(1, 1, 0, 1);
        }
        return x;
    }

    private static void noSuchWork() {
        works("of 5 works", 5, Yards::busy);
        works("of 16 works", 16, Yards::fullNet);
        works("without works", 0, Yards::empty);
        works("behind clearNet()", 0, RuleBounds::cleared);
        Bounds.exists("early of 2 works of a text", 2, RuleBounds::read, SlipwayYard::early);
    }

    private static void works(String when, int count, Bounds.Recipe recipe) {
        Bounds.exists("early " + when, count, recipe, SlipwayYard::early);
        Bounds.exists("late " + when, count, recipe, SlipwayYard::late);
        Bounds.exists("play " + when, count, recipe, SlipwayYard::play);
        Bounds.exists("set " + when, count, recipe, (x, v) -> x.set(v, 3, 1));
        Bounds.exists("waits of " + when, count, recipe, (x, v) -> x.waits(v, 0, 0, 0));
        Bounds.exists("waits for " + when, count, recipe, (x, v) -> x.waits(0, v, 0, 0));
        Bounds.exists("delay " + when, count, recipe, (x, v) -> x.delay(v, 0, 1));
    }

    private static SlipwayYard cleared() {
        SlipwayYard x = Yards.busy();
        x.clearNet();
        return x;
    }

    /** The text has 2 works and a wait. */
    private static SlipwayYard read() {
        SlipwayYard x = Yards.busy();
        x.read();
        return x;
    }

    private static void noSuchWait() {
        Bounds.exists("drop of 4 waits", 4, Yards::busy, SlipwayYard::drop);
        Bounds.exists("drop of 40 waits", 40, Yards::fullNet, SlipwayYard::drop);
        Bounds.exists("drop without waits", 0, Yards::empty, SlipwayYard::drop);
        Bounds.exists("drop behind clearNet()", 0, RuleBounds::cleared, SlipwayYard::drop);
        Bounds.exists("drop of the wait of a text", 1, RuleBounds::read, SlipwayYard::drop);
        Bounds.answers("drop of the last of 4 waits", 3, Yards::busy, x -> x.drop(3));
        Bounds.answers("drop of the last of 40 waits", 39, Yards::fullNet, x -> x.drop(39));
        Bounds.refuses("drop(3) behind a drop", Bounds.INDEX, RuleBounds::dropped, x -> x.drop(3));
    }

    private static SlipwayYard dropped() {
        SlipwayYard x = Yards.busy();
        x.drop(0);
        return x;
    }

    private static void noSuchThing() {
        things("of a few", 3, 2, 2, Yards::busy);
        things("of all that can be", 20, 3, 4, Yards::fullYard);
        things("of none", 0, 0, 0, Yards::empty);
    }

    private static void things(String when, int blocks, int slips, int cranes, Bounds.Recipe recipe) {
        Bounds.exists("put " + when, blocks, recipe, (x, v) -> x.put(v, 0, 0, 0));
        Bounds.exists("takeAway " + when, blocks, recipe, SlipwayYard::takeAway);
        Bounds.exists("stand " + when, slips, recipe, (x, v) -> x.stand(v, 0, 1, 0, 1));
        Bounds.exists("firstStand " + when, slips, recipe, (x, v) -> x.firstStand(v, 1, 1, false));
        Bounds.exists("lift " + when, cranes, recipe, (x, v) -> x.lift(v, 0, 0, 1));
        Bounds.exists("nextLift " + when, cranes, recipe, (x, v) -> x.nextLift(v, 0, 0, 1));
    }

    private static void numbers() {
        SlipwayYard x = new SlipwayYard();
        for (int k = 0; k < 3; k++) {
            int due = k;
            Due.is("work " + k, due, () -> x.work(due, due, due, due));
            Due.argument("work between", () -> x.work(61, 0, 0, 0));
            Due.is("plate " + k, due, () -> x.plate(10203 + due));
            Due.argument("plate between", () -> x.plate(102));
            Due.is("block " + k, due, () -> x.block(1 + due, 1, 1, 1));
            Due.argument("block between", () -> x.block(0, 1, 1, 1));
            Due.is("slip " + k, due, () -> x.slip(1 + due));
            Due.is("crane " + k, due, () -> x.crane(1 + due));
        }
        Due.is("the time of work 1", 1, () -> x.set(1, 0, 1));
        Due.is("the price of work 2", 2, () -> x.set(2, 2, 2));
        Due.is("block 1 is 2 long", true, () -> x.put(1, 0, 0, 0));
        Due.is("its middle", 1L, () -> x.middle(0, false));
        Due.is("slip 2 is 3 long", 0, () -> x.firstStand(2, 3, 1, true));
        Due.argument("slip 1 is 2 long", () -> x.firstStand(1, 3, 1, true));
        Due.is("crane 1 is 2 strong", true, () -> x.lift(1, 0, 0, 2));
        Due.is("crane 0 is 1 strong", false, () -> x.lift(0, 9, 0, 2));
        Due.is("clearNet()", 3, x::clearNet);
        Due.is("the numbers begin with 0 again", 0, () -> x.work(1, 1, 1, 1));
    }

    private static void lowestTerms() {
        SlipwayYard x = new SlipwayYard();
        x.block(2, 2, 2, 10);
        x.put(0, 99, 0, 6);
        fraction(x, 0, 100, 1);
        fraction(x, 1, 1, 1);
        fraction(x, 2, 7, 1);
        x.block(1, 1, 1, 10);
        x.put(1, 0, 8, 99);
        // 80 cells' weight at 100 and 10 at a half: 8005 / 90; 80 at 1 and 10 at 8.5: 165 / 90; 80 * 7 + 995 by 90
        fraction(x, 0, 1601, 18);
        fraction(x, 1, 11, 6);
        fraction(x, 2, 311, 18);
        SlipwayYard y = Due.net("a=5;b=5;c=5;d=5");
        y.delay(0, 0, 12);
        claim(y, 0, 12, 1);
        y.delay(1, 1, 12);
        claim(y, 0, 6, 1);
        y.delay(2, 2, 12);
        claim(y, 0, 4, 1);
        y.delay(3, 3, 12);
        claim(y, 0, 3, 1);
        y.delay(0, 0, 3);
        claim(y, 0, 3, 4);
    }

    private static void fraction(SlipwayYard x, int direction, long above, long below) {
        Due.is("middle(" + direction + ", false)", above, () -> x.middle(direction, false));
        Due.is("middle(" + direction + ", true)", below, () -> x.middle(direction, true));
    }

    private static void claim(SlipwayYard x, int causer, long above, long below) {
        Due.is("claim(" + causer + ", false)", above, () -> x.claim(causer, false));
        Due.is("claim(" + causer + ", true)", below, () -> x.claim(causer, true));
    }

    private static void belowTheLine() {
        // b begins with a, which begins sooner if it takes longer: a part below 0
        SlipwayYard x = Due.net("a=1;b=9;c=20;c_a;a^b");
        x.delay(0, 1, 5);
        claim(x, 1, -5, 1);
        x.delay(0, 2, 6);
        claim(x, 1, -7, 2);
        claim(x, 2, -9, 2);
    }

    private static void zero() {
        SlipwayYard x = Yards.busy();
        x.delay(0, 0, 0);
        claim(x, 0, 0, 1);
        claim(x, 2, 0, 1);
        claim(new SlipwayYard(), 3, 0, 1);
        // greater and smaller than 0, together 0
        SlipwayYard y = Due.net("a=1;b=9;c=20;c_a;a^b");
        y.delay(0, 0, 4);
        y.delay(1, 0, 4);
        claim(y, 0, 0, 1);
    }
}
