/** Promises 19 and 20: what it costs to be done sooner, and the shortest length. */
public final class ShorterTest {
    private static long seed = 19;

    public static void main(String[] args) {
        outOfRange();
        noWorks();
        oneRow();
        twoRows();
        cheaperTogether();
        longerAgain();
        pricesOfNothing();
        otherSorts();
        alone();
        belowTheShortest();
        Due.end();
    }

    private static void outOfRange() {
        SlipwayYard x = Due.net("a=5/2;b=4/1;a>b");
        Due.argument("cost(-1)", () -> x.cost(-1));
        Due.argument("cost(2001)", () -> x.cost(2001));
        Due.argument("cost(Integer.MIN_VALUE)", () -> x.cost(Integer.MIN_VALUE));
        Due.is("cost(2000)", 0L, () -> x.cost(2000));
        Due.is("cost(0)", -1L, () -> x.cost(0));
        x.waits(1, 0, 1, 0);
        Due.argument("cost(2001) with another sort", () -> x.cost(2001));
        Due.is("cost(2000) with another sort", -1L, () -> x.cost(2000));
    }

    private static void noWorks() {
        SlipwayYard x = new SlipwayYard();
        Due.is("cost(0)", 0L, () -> x.cost(0));
        Due.is("cost(2000)", 0L, () -> x.cost(2000));
        Due.is("shortest()", 0, x::shortest);
    }

    private static SlipwayYard yard(int[][] works, int[][] waits) {
        SlipwayYard x = new SlipwayYard();
        for (int[] work : works) {
            x.work(work[0], work[1], work[2], 0);
        }
        for (int[] wait : waits) {
            x.waits(wait[0], wait[1], SlipwayYard.ENDS_BEGINS, wait[2]);
        }
        return x;
    }

    private static void costs(SlipwayYard x, int length, long... costs) {
        for (int k = 0; k < costs.length; k++) {
            int its = length - k;
            Due.is("cost(" + its + ")", costs[k], () -> x.cost(its));
        }
    }

    private static void oneRow() {
        // first 2 days for 3, then 4 days for 7; the lag stays
        SlipwayYard x = yard(new int[][] {{6, 2, 7}, {4, 2, 3}}, new int[][] {{1, 0, 5}});
        costs(x, 16, 0, 0, 3, 6, 13, 20, 27, 34, -1, -1);
        Due.is("shortest()", 9, x::shortest);
        Due.is("length() stays", 15, x::length);
        Due.is("errors()", 0, x::errors);
    }

    private static void twoRows() {
        // two rows beside each other must both be shortened
        SlipwayYard x = yard(new int[][] {{5, 1, 2}, {5, 3, 10}, {7, 1, 4}}, new int[][] {{1, 0, 0}});
        costs(x, 10, 0, 2, 4, 6, 8 + 4, 18 + 8, 28 + 12, -1);
        Due.is("shortest()", 4, x::shortest);
        Due.is("errors()", 0, x::errors);
    }

    private static void cheaperTogether() {
        // a, then b and c beside each other: b and c together cost 8, a costs 10
        SlipwayYard x = yard(new int[][] {{4, 2, 10}, {3, 2, 4}, {3, 1, 4}}, new int[][] {{1, 0, 0}, {2, 0, 0}});
        costs(x, 7, 0, 8, 18, 28, -1);
        // b and c together now cost more than a
        x.set(1, 2, 7);
        costs(x, 7, 0, 10, 20, 31, -1);
        Due.is("shortest()", 4, x::shortest);
    }

    private static void longerAgain() {
        // rows s a, s m t, b t with s 1 to 2, t 1 to 2, m 4 to 4: a shortened work can become longer again
        SlipwayYard x = yard(
                new int[][] {{10, 0, 3}, {10, 0, 3}, {8, 0, 5}, {2, 0, 1}, {2, 0, 1}},
                new int[][] {{1, 0, 0}, {2, 3, 0}, {4, 2, 0}, {4, 0, 8}, {1, 3, 8}});
        Due.is("length()", 20, x::length);
        for (int length = 20; length >= 18; length--) {
            long brute = brute(length);
            int its = length;
            Due.is("cost(" + length + ")", brute, () -> x.cost(its));
        }
    }

    /** The least cost of the net of longerAgain, by all ways to shorten its works by up to 2 days. */
    private static long brute(int length) {
        int[] time = {10, 10, 8, 2, 2};
        int[] price = {3, 3, 5, 1, 1};
        long best = -1;
        for (int way = 0; way < 243; way++) {
            int[] t = new int[5];
            long cost = 0;
            for (int k = 0, rest = way; k < 5; k++, rest /= 3) {
                t[k] = time[k] - rest % 3;
                cost += (long) rest % 3 * price[k];
            }
            int one = Math.max(t[0], t[3] + 8) + t[1];
            int two = Math.max(t[3] + t[2], t[0] + 8) + t[4];
            if (Math.max(one, two) <= length && (best < 0 || cost < best)) {
                best = cost;
            }
        }
        return best;
    }

    private static void pricesOfNothing() {
        SlipwayYard x = yard(new int[][] {{6, 2, 0}, {4, 4, 9}, {9, 0, 1000}}, new int[][] {{1, 0, 0}});
        costs(x, 10, 0, 0, 1000, 2000, 3000, -1);
        Due.is("shortest()", 6, x::shortest);
        // the dearest of all
        SlipwayYard y = new SlipwayYard();
        for (int work = 0; work < 16; work++) {
            y.work(60, 0, 1000, 0);
        }
        Due.is("cost(0) of works beside each other", 960000L, () -> y.cost(0));
        for (int work = 1; work < 16; work++) {
            y.waits(work, work - 1, SlipwayYard.ENDS_BEGINS, 0);
        }
        Due.is("cost(0) of works in a row", 960000L, () -> y.cost(0));
        Due.is("cost(959) of works in a row", 1000L, () -> y.cost(959));
        Due.is("shortest()", 0, y::shortest);
    }

    private static void otherSorts() {
        for (int sort = 1; sort < 4; sort++) {
            SlipwayYard x = yard(new int[][] {{6, 2, 1}, {4, 4, 9}}, new int[][] {{1, 0, 0}});
            x.waits(1, 0, sort, 0);
            Due.is("cost(10)", -1L, () -> x.cost(10));
            Due.is("shortest()", -1, x::shortest);
            x.drop(1);
            Due.is("cost(9)", 1L, () -> x.cost(9));
            Due.is("shortest()", 6, x::shortest);
        }
    }

    private static void alone() {
        SlipwayYard x = yard(new int[][] {{6, 2, 3}}, new int[][] {});
        costs(x, 6, 0, 3, 6, 9, 12, -1, -1);
        // two beside each other that wait for nothing
        SlipwayYard y = yard(new int[][] {{6, 2, 3}, {8, 3, 5}}, new int[][] {});
        costs(y, 8, 0, 5, 10, 18, 26, 34, -1);
        Due.is("shortest()", 3, y::shortest);
        x.delay(0, 0, 10);
        Due.is("cost(6) without the delays", 0L, () -> x.cost(6));
        Due.is("shortest() without the delays", 2, x::shortest);
    }

    private static int draw(int from, int upTo) {
        seed = seed * 6364136223846793005L + 1442695040888963407L;
        return from + (int) ((seed >>> 33) % (upTo - from + 1));
    }

    /** Nets of short works, many of them dear, with many longest ways: none can be done below the shortest length. */
    private static void belowTheShortest() {
        for (int net = 0; net < 400; net++) {
            SlipwayYard x = new SlipwayYard();
            int works = draw(8, 16);
            int most = draw(1, 3);
            for (int work = 0; work < works; work++) {
                int time = draw(0, most);
                x.work(time, draw(0, time), draw(0, 2) == 0 ? 1000 : draw(0, 4), 0);
            }
            for (int wait = draw(0, 40); wait > 0; wait--) {
                int other = draw(0, works - 2);
                x.waits(draw(other + 1, works - 1), other, SlipwayYard.ENDS_BEGINS, draw(0, 1));
            }
            int shortest = x.shortest();
            for (int length = Math.max(0, shortest - 4); length < shortest; length++) {
                int its = length;
                Due.is("cost(" + length + ") below the shortest length of net " + net, -1L, () -> x.cost(its));
            }
            Due.holds("cost(" + shortest + ") of net " + net, x.cost(shortest) >= 0);
            Due.is("cost() of the length of net " + net, 0L, () -> x.cost(x.length()));
        }
    }
}
