/** Promises 13 to 18, 21, 22 and 45: beginnings, plays, longest rows, peaks. */
public final class PlanTest {
    public static void main(String[] args) {
        noWorks();
        noSuchWork();
        foursorts();
        belowZeroIsNone();
        lateByAllSorts();
        deepNet();
        rowsWithEqualWaits();
        rowsOfNothing();
        rowsThatGoOn();
        rowsByNumber();
        peaks();
        leastPeaks();
        evenPeaks();
        tooMuchPlay();
        playThatIsNotFree();
        meanPlays();
        Due.end();
    }

    private static void noWorks() {
        SlipwayYard x = new SlipwayYard();
        Due.is("length()", 0, x::length);
        Due.is("rows()", 0L, x::rows);
        Due.is("rowAt(NONE)", 0, () -> x.rowAt(SlipwayYard.NONE));
        Due.index("rowAt(0)", () -> x.rowAt(0));
        Due.index("rowAt(-2)", () -> x.rowAt(-2));
        Due.is("peak()", 0, x::peak);
        Due.is("leastPeak()", 0, x::leastPeak);
        Due.is("meanPlay()", 0.0, x::meanPlay);
    }

    private static void noSuchWork() {
        SlipwayYard x = Due.net("a=3;b=4");
        int[] wrong = {-1, 2, Integer.MIN_VALUE, Integer.MAX_VALUE};
        for (int work : wrong) {
            Due.index("early(" + work + ")", () -> x.early(work));
            Due.index("late(" + work + ")", () -> x.late(work));
            Due.index("play(" + work + ")", () -> x.play(work));
        }
    }

    private static void plan(SlipwayYard x, int work, int early, int late) {
        Due.is("early(" + work + ")", early, () -> x.early(work));
        Due.is("late(" + work + ")", late, () -> x.late(work));
        Due.is("play(" + work + ")", late - early, () -> x.play(work));
    }

    private static void foursorts() {
        // b begins 2 behind a's end, c 1 behind a's beginning, d ends 4 behind a's end, e ends 20 behind b's beginning
        SlipwayYard x = Due.net("a=5;b=3;c=2;d=1;e=6;a>b+2;a^c+1;a_d+4;b<e+20");
        Due.is("length()", 27, x::length);
        plan(x, 0, 0, 0);
        plan(x, 1, 7, 7);
        plan(x, 2, 1, 25);
        plan(x, 3, 8, 26);
        plan(x, 4, 21, 21);
        Due.is("rows()", 1L, x::rows);
        Due.is("rowAt(NONE)", 3, () -> x.rowAt(-1));
        Due.is("rowAt(0)", 0, () -> x.rowAt(0));
        Due.is("rowAt(1)", 1, () -> x.rowAt(1));
        Due.is("rowAt(2)", 4, () -> x.rowAt(2));
        Due.index("rowAt(3)", () -> x.rowAt(3));
        Due.index("rowAt(-2)", () -> x.rowAt(-2));
        Due.is("errors()", 0, x::errors);
    }

    private static void belowZeroIsNone() {
        // b would begin at -7 by its wait: it begins at 0, and no row leads there by the wait
        SlipwayYard x = Due.net("a=3;b=10;a_b");
        plan(x, 0, 0, 7);
        plan(x, 1, 0, 0);
        Due.is("rows()", 1L, x::rows);
        Due.is("rowAt(NONE)", 1, () -> x.rowAt(-1));
        Due.is("rowAt(0)", 1, () -> x.rowAt(0));
        // just 0 is one that the wait tells
        x.set(1, 1, 0);
        x.set(1, 0, 3);
        Due.is("rows(): a; b; a b", 3L, x::rows);
        Due.is("rowAt(NONE)", 2, () -> x.rowAt(-1));
    }

    private static void lateByAllSorts() {
        // c takes 40 days, so the wait of b tells the latest beginning of a
        SlipwayYard x = Due.net("a=5;b=9;c=40");
        Due.is("waits ENDS_BEGINS", 1, () -> x.waits(1, 0, SlipwayYard.ENDS_BEGINS, 4));
        plan(x, 1, 9, 31);
        plan(x, 0, 0, 22);
        x.drop(0);
        Due.is("waits BEGINS_BEGINS", 1, () -> x.waits(1, 0, SlipwayYard.BEGINS_BEGINS, 4));
        plan(x, 1, 4, 31);
        plan(x, 0, 0, 27);
        x.drop(0);
        Due.is("waits ENDS_ENDS", 1, () -> x.waits(1, 0, SlipwayYard.ENDS_ENDS, 6));
        plan(x, 1, 2, 31);
        plan(x, 0, 0, 29);
        x.drop(0);
        Due.is("waits BEGINS_ENDS", 1, () -> x.waits(1, 0, SlipwayYard.BEGINS_ENDS, 12));
        plan(x, 1, 3, 31);
        plan(x, 0, 0, 28);
        // its own end bounds a, not the wait
        x.drop(0);
        Due.is("waits BEGINS_ENDS", 1, () -> x.waits(1, 0, SlipwayYard.BEGINS_ENDS, 0));
        plan(x, 1, 0, 31);
        plan(x, 0, 0, 35);
        Due.is("length()", 40, x::length);
    }

    private static void deepNet() {
        // 16 works in a row against their numbers, with the greatest times and lags
        SlipwayYard x = new SlipwayYard();
        for (int work = 0; work < 16; work++) {
            x.work(60, 60, 0, work % 10);
        }
        for (int work = 0; work < 15; work++) {
            x.waits(work, work + 1, SlipwayYard.ENDS_BEGINS, 30);
        }
        Due.is("length()", 1410, x::length);
        for (int work = 0; work < 16; work++) {
            plan(x, work, 90 * (15 - work), 90 * (15 - work));
            int number = work;
            Due.is("rowAt(" + (15 - work) + ")", work, () -> x.rowAt(15 - number));
        }
        Due.is("rowAt(NONE)", 16, () -> x.rowAt(-1));
        Due.is("rows()", 1L, x::rows);
        Due.is("peak()", 9, x::peak);
        Due.is("leastPeak()", 9, x::leastPeak);
        for (int work = 1; work < 16; work++) {
            x.set(work, 3, 0);
        }
        x.set(0, 3, 8);
        Due.is("peak() of the last work", 8, x::peak);
        Due.is("leastPeak() of the last work", 8, x::leastPeak);
        Due.is("cost(1410)", 0L, () -> x.cost(1410));
        Due.is("cost(1409)", -1L, () -> x.cost(1409));
        Due.is("shortest()", 1410, x::shortest);
        Due.is("errors()", 0, x::errors);
    }

    private static void rowsWithEqualWaits() {
        // two waits that are the same make two rows, a wait that lags less makes none
        SlipwayYard x = Due.net("a=2;b=3;c=4;a>b;a>b;a^b+2;a^b+1;b>c;b_c+4");
        Due.is("rows()", 6L, x::rows);
        Due.is("rowAt(NONE)", 3, () -> x.rowAt(-1));
        // ways of 15 steps, each of 2 or 3 waits
        SlipwayYard y = new SlipwayYard();
        for (int work = 0; work < 16; work++) {
            y.work(1, 1, 0, 0);
        }
        long ways = 1;
        for (int wait = 0; wait < 40; wait++) {
            int work = wait % 15 + 1;
            y.waits(work, work - 1, SlipwayYard.ENDS_BEGINS, 0);
        }
        for (int work = 1; work < 16; work++) {
            ways *= work <= 10 ? 3 : 2;
        }
        Due.is("rows() of many waits", ways, y::rows);
    }

    private static void rowsOfNothing() {
        // all takes no time: each work begins and ends rows
        SlipwayYard x = Due.net("a=0;b=0;c=0;a>b;a>b;b>c");
        Due.is("length()", 0, x::length);
        Due.is("rows(): a, b, c, 2 a b, b c, 2 a b c", 8L, x::rows);
        Due.is("rowAt(NONE)", 3, () -> x.rowAt(-1));
        Due.is("rowAt(2)", 2, () -> x.rowAt(2));
    }

    private static void rowsThatGoOn() {
        // behind a, which ends at the length, b takes no time: it goes on ahead of ending
        SlipwayYard x = Due.net("a=5;b=0;a>b");
        Due.is("rows(): a, a b", 2L, x::rows);
        Due.is("rowAt(NONE)", 2, () -> x.rowAt(-1));
        Due.is("rowAt(1)", 1, () -> x.rowAt(1));
        // b begins just when a tells it, but leads to no end: the row does not go on to it
        SlipwayYard y = Due.net("a=5;b=3;a^b");
        Due.is("rows()", 1L, y::rows);
        Due.is("rowAt(NONE)", 1, () -> y.rowAt(-1));
    }

    private static void rowsByNumber() {
        // rows a d, b c: the one with a; rows through b and c behind a: the one through b
        SlipwayYard x = Due.net("a=2;b=2;c=3;d=3;a>d;b>c");
        Due.is("rows()", 2L, x::rows);
        Due.is("rowAt(0)", 0, () -> x.rowAt(0));
        Due.is("rowAt(1)", 3, () -> x.rowAt(1));
        SlipwayYard y = Due.net("a=2;b=3;c=3;d=1;a>c;a>b;c>d;b>d");
        Due.is("rows()", 2L, y::rows);
        Due.is("rowAt(1)", 1, () -> y.rowAt(1));
        Due.is("rowAt(2)", 3, () -> y.rowAt(2));
        // a is no start of a longest row although its number is less
        SlipwayYard z = Due.net("a=2;b=3;c=1;a>c;b>c");
        Due.is("rowAt(0)", 1, () -> z.rowAt(0));
        Due.is("rowAt(NONE)", 2, () -> z.rowAt(-1));
        Due.is("rows()", 1L, z::rows);
    }

    private static SlipwayYard yard(int[][] works, int[][] waits) {
        SlipwayYard x = new SlipwayYard();
        for (int[] work : works) {
            x.work(work[0], work[0], 0, work[1]);
        }
        for (int[] wait : waits) {
            x.waits(wait[0], wait[1], wait[2], wait[3]);
        }
        return x;
    }

    private static void peaks() {
        SlipwayYard x = yard(new int[][] {{3, 4}, {2, 5}, {3, 3}, {0, 9}}, new int[][] {{2, 0, 0, 0}});
        Due.is("peak(), a work of no days counts nowhere", 9, x::peak);
        // on the day of an end the work is not there any more
        SlipwayYard y = yard(new int[][] {{3, 4}, {3, 5}}, new int[][] {{1, 0, 0, 0}});
        Due.is("peak()", 5, y::peak);
        y.drop(0);
        y.waits(1, 0, 1, 2);
        Due.is("peak()", 9, y::peak);
        // delays are not in the plan
        y.drop(0);
        y.waits(1, 0, 1, 3);
        y.delay(0, 0, 9);
        Due.is("peak()", 5, y::peak);
    }

    private static void leastPeaks() {
        // c (3 days of 4) can move from day 0 to day 2 beside a row of a and b
        SlipwayYard x = yard(new int[][] {{2, 5}, {3, 1}, {3, 4}}, new int[][] {{1, 0, 0, 0}});
        Due.is("peak()", 9, x::peak);
        Due.is("leastPeak()", 5, x::leastPeak);
        // two that must move apart, one of them as it waits for the other
        SlipwayYard y = yard(new int[][] {{6, 0}, {2, 5}, {2, 5}, {2, 5}}, new int[][] {{3, 2, 1, 0}});
        Due.is("peak()", 15, y::peak);
        Due.is("leastPeak()", 5, y::leastPeak);
        y.waits(3, 1, 2, 0);
        y.set(1, 1, 0);
        y.set(1, 0, 3);
        Due.is("leastPeak() of 7 days for 6", 10, y::leastPeak);
        // nothing can move
        SlipwayYard z = yard(new int[][] {{3, 2}, {3, 3}, {3, 4}}, new int[][] {});
        Due.is("leastPeak()", 9, z::leastPeak);
        // a work without means between two with some
        SlipwayYard w = yard(new int[][] {{5, 0}, {1, 7}, {2, 0}, {1, 7}, {2, 3}}, new int[][] {{2, 1, 0, 0}, {3, 2, 0, 0}});
        Due.is("leastPeak()", 7, w::leastPeak);
        Due.is("errors()", 0, w::errors);
    }

    private static void evenPeaks() {
        // 8 means of 4 days lie 2 on each
        SlipwayYard x = yard(new int[][] {{4, 1}, {2, 1}, {2, 1}}, new int[][] {});
        Due.is("peak()", 3, x::peak);
        Due.is("leastPeak()", 2, x::leastPeak);
        // 7 means of 4 days do not lie on 1 each; a work of no days has no means on any
        SlipwayYard y = yard(new int[][] {{4, 1}, {2, 1}, {1, 1}, {0, 9}}, new int[][] {});
        Due.is("peak()", 3, y::peak);
        Due.is("leastPeak()", 2, y::leastPeak);
        // a wait with a lag keeps the two of 2 days from lying behind each other
        SlipwayYard z = yard(new int[][] {{4, 1}, {2, 1}, {2, 1}}, new int[][] {{2, 1, 2, 0}, {2, 1, 3, 2}});
        Due.is("leastPeak()", 2, z::leastPeak);
        z.waits(1, 0, 1, 1);
        Due.is("leastPeak() of day 1 on", 3, z::leastPeak);
        // the wait for a work that moves comes ahead of all other waits
        SlipwayYard w = yard(new int[][] {{1, 2}, {1, 2}, {1, 2}, {4, 0}}, new int[][] {{0, 1, 0, 0}, {1, 2, 1, 1}});
        Due.is("peak()", 2, w::peak);
        Due.is("leastPeak()", 2, w::leastPeak);
        SlipwayYard v = yard(new int[][] {{2, 3}, {3, 0}, {1, 3}}, new int[][] {{2, 0, 0, 0}});
        Due.is("leastPeak() of a row", 3, v::leastPeak);
        v.drop(0);
        v.waits(2, 0, 2, 0);
        Due.is("leastPeak() of ends", 3, v::leastPeak);
        v.set(2, 0, 2);
        Due.is("leastPeak() of 4 days in 3", 6, v::leastPeak);
    }

    private static void tooMuchPlay() {
        // plays 4 and 1 each: 5 to the 5th is 3125, times 2 is 6250
        SlipwayYard x = new SlipwayYard();
        x.work(4, 0, 0, 0);
        for (int k = 0; k < 5; k++) {
            x.work(0, 0, 0, 1);
        }
        Due.is("leastPeak() of 3125 ways", 0, x::leastPeak);
        x.work(3, 0, 0, 1);
        Due.state("leastPeak() of 6250 ways", x::leastPeak);
        Due.is("peak() all the same", 1, x::peak);
        Due.is("works() stay", 7, x::works);
        // just 5000: 20 times 250, then 5020
        SlipwayYard y = new SlipwayYard();
        y.work(60, 60, 0, 0);
        y.work(41, 41, 0, 2);
        for (int k = 0; k < 3; k++) {
            y.work(56, 51, 0, 1);
        }
        y.work(59, 59, 0, 1);
        // plays 19, 4, 4, 4 and 1
        Due.is("play(1)", 19, () -> y.play(1));
        Due.is("play(2)", 4, () -> y.play(2));
        Due.is("leastPeak() of 5000 ways", 6, y::leastPeak);
        y.set(1, 1, 40);
        y.set(1, 0, 40);
        Due.state("leastPeak() of 5250 ways", y::leastPeak);
        y.set(1, 0, 41);
        Due.is("leastPeak() of 5000 ways again", 6, y::leastPeak);
        y.work(59, 59, 0, 1);
        Due.state("leastPeak() of 5000 ways twice", y::leastPeak);
        // plays 1, 40 and 60
        SlipwayYard w = new SlipwayYard();
        w.work(60, 60, 0, 0);
        w.work(59, 59, 0, 3);
        w.work(20, 20, 0, 3);
        w.work(0, 0, 0, 3);
        Due.state("leastPeak() of 5002 ways", w::leastPeak);
        // the greatest plays of all
        SlipwayYard z = new SlipwayYard();
        for (int k = 0; k < 15; k++) {
            z.work(0, 0, 0, 9);
        }
        z.work(60, 60, 0, 9);
        Due.state("leastPeak() of 61 to the 15th", z::leastPeak);
    }

    private static void playThatIsNotFree() {
        // the product counts plays, also if works hold each other
        SlipwayYard x = new SlipwayYard();
        x.work(9, 9, 0, 0);
        for (int k = 0; k < 3; k++) {
            x.work(0, 0, 0, 1);
        }
        for (int k = 2; k < 4; k++) {
            x.waits(k, k - 1, SlipwayYard.ENDS_BEGINS, 0);
        }
        Due.is("leastPeak() of 1000", 0, x::leastPeak);
        x.work(4, 4, 0, 3);
        Due.state("leastPeak() of 6000", x::leastPeak);
        x.set(4, 0, 5);
        Due.is("leastPeak() of 5000", 3, x::leastPeak);
    }

    private static void meanPlays() {
        SlipwayYard x = Due.net("a=5;b=3;c=1");
        Due.is("meanPlay() of 0, 2 and 4", 2.0, x::meanPlay);
        x.set(2, 1, 0);
        x.set(2, 0, 2);
        Due.is("meanPlay() of 0, 2 and 3", 5.0 / 3.0, x::meanPlay);
        x.set(0, 1, 0);
        x.set(0, 0, 0);
        Due.is("meanPlay() of 3, 0 and 1", 4.0 / 3.0, x::meanPlay);
        SlipwayYard y = Due.net("a=5;b=5");
        Due.is("meanPlay() without play", 0.0, y::meanPlay);
    }
}
