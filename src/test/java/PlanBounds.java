/** Section 2, plans, rows, costs and peaks, and promises 13 to 22 and 45. */
final class PlanBounds {
    private static final String PART = "Section 2";

    private PlanBounds() {
    }

    static void all() {
        plans();
        longestRows();
        shorter();
        beginnings();
        rows();
        costs();
        peaks();
        leastPeaks();
        meanPlays();
    }

    /** The greatest length: 16 works of 60 days in a row, with lags of 30 days; work 0 is the last one. */
    private static SlipwayYard longest() {
        SlipwayYard x = new SlipwayYard();
        for (int work = 0; work < 16; work++) {
            x.work(60, 60, 0, 9);
        }
        for (int work = 0; work < 15; work++) {
            x.waits(work, work + 1, SlipwayYard.ENDS_BEGINS, 30);
        }
        return x;
    }

    /** The greatest play: beside 15 such works one of no days, work 0, that waits for none. */
    private static SlipwayYard mostPlay() {
        SlipwayYard x = new SlipwayYard();
        x.work(0, 0, 0, 9);
        for (int work = 1; work < 16; work++) {
            x.work(60, 60, 0, 9);
        }
        for (int work = 1; work < 15; work++) {
            x.waits(work, work + 1, SlipwayYard.ENDS_BEGINS, 30);
        }
        return x;
    }

    /** So many works of no days. */
    private static SlipwayYard nothing(int works) {
        SlipwayYard x = new SlipwayYard();
        for (int work = 0; work < works; work++) {
            x.work(0, 0, 0, 9);
        }
        return x;
    }

    private static void plans() {
        Bounds.of(PART, "a beginning, a whole number from 0 on", () -> {
            // b would begin at -10, -1, 0 and 1 by its wait
            int[] times = {0, 9, 10, 11};
            int[] due = {0, 0, 0, 1};
            for (int k = 0; k < times.length; k++) {
                int its = due[k];
                Bounds.answers("early(1) behind a=" + times[k], its, net("a=" + times[k] + ";b=10;a_b"), x -> x.early(1));
            }
            Bounds.answers("by BEGINS_ENDS, from -60", 0, net("a=60;b=60;a<b"), x -> x.early(1));
            Bounds.answers("late(0), not below 0", 0, net("a=60;b=0;a>b"), x -> x.late(0));
            Bounds.answers("late(0) of b's wait from -60 on", 0, net("a=60;b=60;a<b"), x -> x.late(0));
        });
        Bounds.of(PART, "by which all waits are kept", () -> {
            // two waits tell 7, two less: the greatest counts
            Bounds.answers("early(2)", 7, net("a=3;b=7;c=1;a>c;b>c;a^c+7;b_c"), x -> x.early(2));
            Bounds.answers("errors()", 0, PlanBounds::longest, SlipwayYard::errors);
        });
        Bounds.of(PART, "its end is the beginning and its time", () -> {
            Bounds.answers("length() of a work of 0 days at day 30", 30, net("a=0;b=0;a>b+30"), SlipwayYard::length);
            Bounds.answers("length() of one of 60 days there", 90, net("a=0;b=60;a>b+30"), SlipwayYard::length);
        });
        Bounds.of(PART, "The earliest beginning of a work is the least one in any plan", () -> {
            Bounds.answers("a work that waits for none", 0, PlanBounds::mostPlay, x -> x.early(0));
            Bounds.answers("the last of 16", 1350, PlanBounds::longest, x -> x.early(0));
        });
        Bounds.of(PART, "The length is the greatest end if all begin at their earliest", () -> {
            Bounds.answers("the end of the first", 60, net("a=60;b=29;a^b+30"), SlipwayYard::length);
            Bounds.answers("the end of both", 60, net("a=60;b=30;a^b+30"), SlipwayYard::length);
            Bounds.answers("the end of the second", 61, net("a=30;b=31;a^b+30"), SlipwayYard::length);
        });
        Bounds.of(PART, "0 without works", () -> {
            Bounds.answers("length()", 0, Yards::empty, SlipwayYard::length);
            Bounds.answers("length() behind clearNet()", "16 0", PlanBounds::longest, x -> x.clearNet() + " " + x.length());
            Bounds.answers("length() of works of no days", 0, () -> nothing(16), SlipwayYard::length);
        });
        Bounds.of(PART, "The latest beginning of a work is the greatest one in any plan in which no end is greater", () -> {
            Bounds.answers("that ends at the length", 59, net("a=60;b=1"), x -> x.late(1));
            Bounds.answers("that takes no time", 60, net("a=60;b=0"), x -> x.late(1));
            Bounds.answers("that must leave a day for b", 58, net("a=1;b=1;c=60;a>b"), x -> x.late(0));
            Bounds.answers("that b need not wait for", 59, net("a=1;b=0;c=60;a<b"), x -> x.late(0));
        });
        Bounds.of(PART, "The play is the latest beginning less the earliest one", () -> {
            Bounds.answers("none", 0, PlanBounds::longest, x -> x.play(0));
            Bounds.answers("the greatest one", "0 1320 1320", PlanBounds::mostPlay,
                x -> x.early(0) + " " + x.late(0) + " " + x.play(0));
        });
    }

    private static Bounds.Recipe net(String text) {
        return () -> Due.net(text);
    }

    private static void longestRows() {
        Bounds.of(PART, "a row of works the first one of which has the earliest beginning 0", () -> {
            // b begins at 0 although it waits: it is a first one, too
            Bounds.answers("rows() a; a b; b", 3L, net("a=3;b=3;a^b"), SlipwayYard::rows);
            // with a lag it begins at 1 and is none
            Bounds.answers("rows() a b", 1L, net("a=3;b=3;a^b+1"), SlipwayYard::rows);
            Bounds.answers("rows() of 16 without waits", 16L, () -> nothing(16), SlipwayYard::rows);
        });
        Bounds.of(PART, "the last one of which, begun at its earliest, ends at the length", () -> {
            Bounds.answers("rows() of one that ends a day ahead", 1L, net("a=3;b=2"), SlipwayYard::rows);
            Bounds.answers("rows() of two that end there", 2L, net("a=3;b=3"), SlipwayYard::rows);
            // works with lesser numbers that lead to no end, as a first one and behind another one
            Bounds.answers("the row b d", "1 2 1 3", net("a=1;b=5;c=1;d=2;a>c;b>c;b>d"),
                x -> x.rows() + " " + x.rowAt(-1) + " " + x.rowAt(0) + " " + x.rowAt(1));
            // b behind a takes no time: a ends there, and so does b
            Bounds.answers("rows() a; a b", 2L, net("a=3;b=0;a>b"), SlipwayYard::rows);
        });
        Bounds.of(PART, "its earliest beginning is just the one that this wait alone tells", () -> {
            Bounds.answers("a day less", 1L, net("a=3;b=2;a>b+1;a>b"), SlipwayYard::rows);
            Bounds.answers("the same day", 2L, net("a=3;b=2;a>b+1;a>b+1"), SlipwayYard::rows);
            Bounds.answers("the same day by another sort", 3L, net("a=3;b=2;a>b+1;a^b+4;a_b+3"), SlipwayYard::rows);
        });
        Bounds.of(PART, "(what would be below 0 is none)", () -> {
            Bounds.answers("rows() by a wait that tells -1", "1 1", net("a=2;b=3;a_b"), x -> x.rows() + " " + x.rowAt(-1));
            Bounds.answers("rows() by one that tells 0", "3 2", net("a=3;b=3;a_b"), x -> x.rows() + " " + x.rowAt(-1));
            Bounds.answers("rows() by one that tells -60", "2 1", net("a=60;b=60;a<b"), x -> x.rows() + " " + x.rowAt(-1));
            Bounds.answers("rows() by one that tells 0", "3 2", net("a=30;b=30;a<b+30"), x -> x.rows() + " " + x.rowAt(-1));
        });
        Bounds.of(PART, "Two rows are different if they have other works, or other waits between them", () -> {
            Bounds.answers("rows() by 40 waits", 40L, PlanBounds::fortyRows, SlipwayYard::rows);
            Bounds.answers("rows() of other works", 2L, net("a=1;b=1;c=1;a>c;b>c"), SlipwayYard::rows);
        });
    }

    /** Work 1 waits for work 0 by 40 waits that are the same. */
    private static SlipwayYard fortyRows() {
        SlipwayYard x = new SlipwayYard();
        x.work(1, 1, 0, 0);
        x.work(1, 1, 0, 0);
        for (int wait = 0; wait < 40; wait++) {
            x.waits(1, 0, SlipwayYard.ENDS_BEGINS, 30);
        }
        return x;
    }

    private static void shorter() {
        Bounds.of(PART, "To be done in a length L is to shorten works so that there is a plan in which no end is greater", () -> {
            Bounds.answers("an end at L", 0L, net("a=9"), x -> x.cost(9));
            Bounds.answers("an end a day later", -1L, net("a=9"), x -> x.cost(8));
            Bounds.answers("an end that is shortened to L", 0L, net("a=9/8"), x -> x.cost(8));
        });
    }

    private static void beginnings() {
        for (int promise = 13; promise <= 15; promise++) {
            String part = "Promise " + promise;
            Bounds.AskInt ask = promise == 13 ? SlipwayYard::early : promise == 14 ? SlipwayYard::late : SlipwayYard::play;
            boolean isPlay = promise == 15;
            int greatest = promise == 13 ? 0 : 1320;
            Bounds.of(part, "`work`: number of a work", () -> {
                Bounds.range("work", 0, isPlay ? 0 : 1350, 15, 0, Bounds.INDEX, PlanBounds::longest, ask);
                Bounds.range("work", 0, 0, 0, 0, Bounds.INDEX, net("a=5"), ask);
            });
            Bounds.of(part, isPlay ? "Returns the days" : "Returns the day", () -> {
                Bounds.answers("the greatest play", greatest, PlanBounds::mostPlay, x -> ask.of(x, 0));
            });
            Bounds.of(part, "Throws `IndexOutOfBoundsException` if there is no such work", () -> {
                Bounds.refuses("work 0 without works", Bounds.INDEX, Yards::empty, x -> ask.of(x, 0));
                Bounds.refuses("work 16 of 16", Bounds.INDEX, PlanBounds::longest, x -> ask.of(x, 16));
                Bounds.refuses("work 1 of 1", Bounds.INDEX, net("a=5"), x -> ask.of(x, 1));
            });
        }
        Bounds.none("Promise 13", "Returns the earliest beginning of a work");
        Bounds.none("Promise 14", "Returns the latest beginning of a work");
        Bounds.none("Promise 15", "Returns the play of a work");
        Bounds.none("Promise 16", "Returns the length");
        Bounds.of("Promise 16", "Returns the days", () -> {
            Bounds.answers("the greatest length", 1410, PlanBounds::longest, SlipwayYard::length);
            Bounds.answers("without works", 0, Yards::empty, SlipwayYard::length);
            Bounds.answers("of one work of no days", 0, () -> nothing(1), SlipwayYard::length);
            Bounds.answers("without the delays", 11, Yards::busy, SlipwayYard::length);
        });
    }

    private static void rows() {
        Bounds.none("Promise 17", "Counts the longest rows");
        Bounds.of("Promise 17", "Returns how many there are", () -> {
            Bounds.answers("without works", 0L, Yards::empty, SlipwayYard::rows);
            Bounds.answers("of one work of no days", 1L, () -> nothing(1), SlipwayYard::rows);
            Bounds.answers("of 16 works in a row", 1L, PlanBounds::longest, SlipwayYard::rows);
            Bounds.answers("of 13 steps with 3 waits each", 1594323L, PlanBounds::mostRows, SlipwayYard::rows);
        });
        String part = "Promise 18";
        Bounds.of(part, "of several the one with the least number at the first place where they are not the same", () -> {
            Bounds.answers("16 rows of one work", "1 0", () -> nothing(16), x -> x.rowAt(-1) + " " + x.rowAt(0));
            Bounds.answers("rows 0 3 and 0 2 3", "3 0 2 3", PlanBounds::crossed,
                x -> x.rowAt(-1) + " " + x.rowAt(0) + " " + x.rowAt(1) + " " + x.rowAt(2));
        });
        Bounds.of(part, "one that goes on ahead of one that ends", () -> {
            Bounds.answers("a ahead of b, and a alone", "2 0 1", net("a=3;b=0;a>b"),
                x -> x.rowAt(-1) + " " + x.rowAt(0) + " " + x.rowAt(1));
            Bounds.answers("16 of no days", "16 15", PlanBounds::stillRow, x -> x.rowAt(-1) + " " + x.rowAt(15));
        });
        Bounds.of(part, "`index`: 0 for the first work", () -> {
            Bounds.answers("rowAt(0) of 16", 15, PlanBounds::longest, x -> x.rowAt(0));
            Bounds.answers("rowAt(15) of 16", 0, PlanBounds::longest, x -> x.rowAt(15));
        });
        Bounds.of(part, "NONE for how many there are", () -> {
            Bounds.answers("rowAt(NONE) of 16", 16, PlanBounds::longest, x -> x.rowAt(SlipwayYard.NONE));
            Bounds.answers("rowAt(-1) of 1", 1, net("a=0"), x -> x.rowAt(-1));
        });
        Bounds.of(part, "0 for how many without works", () -> {
            Bounds.answers("rowAt(NONE)", 0, Yards::empty, x -> x.rowAt(SlipwayYard.NONE));
            Bounds.answers("rowAt(NONE) behind clearNet()", "16 0", PlanBounds::longest, x -> x.clearNet() + " " + x.rowAt(-1));
        });
        Bounds.of(part, "Throws `IndexOutOfBoundsException` if the row has no such work", () -> {
            int[] outside = {-2, -256, Integer.MIN_VALUE, Integer.MAX_VALUE, 65536, 2};
            for (int index : outside) {
                Bounds.refuses("rowAt(" + index + ")", Bounds.INDEX, net("a=3;b=2;c=4;a>b"), x -> x.rowAt(index));
                Bounds.refuses("rowAt(" + index + ") without works", Bounds.INDEX, Yards::empty, x -> x.rowAt(index));
            }
            Bounds.answers("rowAt(1)", 1, net("a=3;b=2;c=4;a>b"), x -> x.rowAt(1));
            Bounds.refuses("rowAt(0) without works", Bounds.INDEX, Yards::empty, x -> x.rowAt(0));
            Bounds.refuses("rowAt(16) of 16", Bounds.INDEX, PlanBounds::longest, x -> x.rowAt(16));
            // there are works of these numbers, but the row is shorter
            Bounds.refuses("rowAt(1) of a row of one", Bounds.INDEX, () -> nothing(16), x -> x.rowAt(1));
        });
    }

    private static SlipwayYard mostRows() {
        SlipwayYard x = new SlipwayYard();
        for (int work = 0; work < 14; work++) {
            x.work(1, 1, 0, 0);
        }
        for (int wait = 0; wait < 39; wait++) {
            x.waits(wait / 3 + 1, wait / 3, SlipwayYard.ENDS_BEGINS, 0);
        }
        return x;
    }

    /** Work 3 begins behind work 0 by a wait of its own, and also behind work 2. */
    private static SlipwayYard crossed() {
        SlipwayYard x = new SlipwayYard();
        x.work(1, 1, 0, 0);
        x.work(1, 1, 0, 0);
        x.work(2, 2, 0, 0);
        x.work(2, 2, 0, 0);
        x.waits(3, 0, SlipwayYard.BEGINS_BEGINS, 3);
        x.waits(2, 0, SlipwayYard.ENDS_BEGINS, 0);
        x.waits(3, 2, SlipwayYard.ENDS_BEGINS, 0);
        return x;
    }

    private static SlipwayYard stillRow() {
        SlipwayYard x = nothing(16);
        for (int work = 1; work < 16; work++) {
            x.waits(work, work - 1, work % 4, 0);
        }
        return x;
    }

    private static void costs() {
        String part = "Promise 19";
        Bounds.of(part, "Returns the least cost of being done in a length", () -> {
            Bounds.answers("the greatest cost", 960000L, PlanBounds::dearest, x -> x.cost(0));
            Bounds.answers("nothing to shorten", 0L, PlanBounds::dearest, x -> x.cost(60));
            Bounds.answers("a day of all", 16000L, PlanBounds::dearest, x -> x.cost(59));
            Bounds.answers("without works", 0L, Yards::empty, x -> x.cost(0));
            Bounds.answers("without the price", 0L, net("a=60/0"), x -> x.cost(0));
        });
        Bounds.of(part, "if all waits are of the sort ENDS_BEGINS", () -> {
            Bounds.answers("without waits", 3L, () -> priced(false), x -> x.cost(4));
            Bounds.answers("with one", 3L, () -> priced(true), x -> x.cost(8));
            Bounds.answers("with 40", 0L, Yards::fullNet, x -> x.cost(x.length()));
        });
        Bounds.of(part, "`length`: 0 to 2000", () -> {
            Bounds.range("length", 0, -1L, 2000, 0L, Bounds.ARGUMENT, () -> priced(true), (x, v) -> x.cost(v));
            Bounds.range("length", 0, 0L, 2000, 0L, Bounds.ARGUMENT, Yards::empty, (x, v) -> x.cost(v));
            Bounds.range("length", 0, -1L, 2000, 0L, Bounds.ARGUMENT, PlanBounds::longest, (x, v) -> x.cost(v));
        });
        Bounds.of(part, "NONE if it cannot be done", () -> {
            Bounds.answers("cost(6), the shortest", 9L, () -> priced(true), x -> x.cost(6));
            Bounds.answers("cost(5), a day less", -1L, () -> priced(true), x -> x.cost(5));
            Bounds.answers("cost(1409), a day less than the greatest length", -1L, PlanBounds::longest, x -> x.cost(1409));
            Bounds.answers("cost(1410), the greatest length", 0L, PlanBounds::longest, x -> x.cost(1410));
        });
        Bounds.of(part, "or there is a wait of another sort", () -> {
            for (int sort = 1; sort < 4; sort++) {
                int its = sort;
                Bounds.answers("cost(2000) with the sort " + sort, "2 -1 1 0", () -> priced(true),
                    x -> x.waits(1, 0, its, 0) + " " + x.cost(2000) + " " + x.drop(1) + " " + x.cost(2000));
                Bounds.refuses("cost(2001) with the sort " + sort, Bounds.ARGUMENT, Yards::busy, x -> x.cost(2001));
            }
        });
        Bounds.of(part, "Throws `IllegalArgumentException` if length is out of range", () -> {
            Bounds.refuses("cost(-1)", Bounds.ARGUMENT, Yards::empty, x -> x.cost(-1));
            Bounds.refuses("cost(NONE)", Bounds.ARGUMENT, Yards::fullNet, x -> x.cost(SlipwayYard.NONE));
            Bounds.refuses("cost(2001)", Bounds.ARGUMENT, Yards::fullNet, x -> x.cost(2001));
        });
        part = "Promise 20";
        Bounds.of(part, "Returns the least length in which all can be done", () -> {
            Bounds.answers("without works", 0, Yards::empty, SlipwayYard::shortest);
            Bounds.answers("of works with least times of 0", 0, PlanBounds::dearest, SlipwayYard::shortest);
            Bounds.answers("of works that cannot be shortened", 1410, PlanBounds::longest, SlipwayYard::shortest);
        });
        Bounds.of(part, "if all waits are of the sort ENDS_BEGINS", () -> {
            Bounds.answers("without waits", 3, () -> priced(false), SlipwayYard::shortest);
            Bounds.answers("with one", 6, () -> priced(true), SlipwayYard::shortest);
        });
        Bounds.of(part, "NONE if there is a wait of another sort", () -> {
            for (int sort = 1; sort < 4; sort++) {
                int its = sort;
                Bounds.answers("with the sort " + sort, "2 -1 1 6", () -> priced(true),
                    x -> x.waits(1, 0, its, 0) + " " + x.shortest() + " " + x.drop(1) + " " + x.shortest());
            }
        });
    }

    /** 16 works beside each other, with the greatest time and price and the least time of 0. */
    private static SlipwayYard dearest() {
        SlipwayYard x = new SlipwayYard();
        for (int work = 0; work < 16; work++) {
            x.work(60, 0, 1000, 0);
        }
        return x;
    }

    /** 5 days down to 3 for 3 each, and 4 days down to 3 for 3. */
    private static SlipwayYard priced(boolean isWaiting) {
        SlipwayYard x = new SlipwayYard();
        x.work(5, 3, 3, 0);
        x.work(4, 3, 3, 0);
        if (isWaiting) {
            x.waits(1, 0, SlipwayYard.ENDS_BEGINS, 0);
        }
        return x;
    }

    private static SlipwayYard yard(int[][] works) {
        SlipwayYard x = new SlipwayYard();
        for (int[] work : works) {
            x.work(work[0], work[0], 0, work[1]);
        }
        return x;
    }

    private static void peaks() {
        Bounds.of(PART, "The peak of a plan is the greatest sum of the means of works on a day", () -> {
            Bounds.answers("the greatest peak", 144, PlanBounds::highest, SlipwayYard::peak);
            Bounds.answers("of no means", 0, () -> yard(new int[][] {{60, 0}, {1, 0}}), SlipwayYard::peak);
        });
        Bounds.of(PART, "a work is there on each day from its beginning to the day ahead of its end", () -> {
            Bounds.answers("one that begins at the other one's end", 5, () -> behind(3), SlipwayYard::peak);
            Bounds.answers("one that begins the day ahead", 9, () -> behind(2), SlipwayYard::peak);
            Bounds.answers("works of no days", 0, () -> nothing(16), SlipwayYard::peak);
            Bounds.answers("a work of one day", 9, () -> yard(new int[][] {{1, 9}}), SlipwayYard::peak);
            Bounds.answers("the last day of the greatest length", 9, PlanBounds::longest, SlipwayYard::peak);
        });
        Bounds.none("Promise 21", "Returns the peak of the plan by which all begin at their earliest");
        Bounds.of("Promise 21", "Returns the means; 0 without works", () -> {
            Bounds.answers("peak()", 0, Yards::empty, SlipwayYard::peak);
            Bounds.answers("peak() behind clearNet()", "16 0", PlanBounds::highest, x -> x.clearNet() + " " + x.peak());
        });
    }

    private static SlipwayYard highest() {
        SlipwayYard x = new SlipwayYard();
        for (int work = 0; work < 16; work++) {
            x.work(60, 60, 0, 9);
        }
        return x;
    }

    /** A work of 3 days with 4 means, and one with 5 that begins so many days behind its beginning. */
    private static SlipwayYard behind(int lag) {
        SlipwayYard x = yard(new int[][] {{3, 4}, {3, 5}});
        x.waits(1, 0, SlipwayYard.BEGINS_BEGINS, lag);
        return x;
    }

    private static void leastPeaks() {
        String part = "Promise 22";
        Bounds.of(part, "Returns the least peak of all plans in which no end is greater than the length", () -> {
            Bounds.answers("that end at the length", 5, () -> yard(new int[][] {{2, 0}, {1, 5}, {1, 5}}), SlipwayYard::leastPeak);
            Bounds.answers("a day has no room for", 10, () -> yard(new int[][] {{2, 0}, {1, 5}, {1, 5}, {1, 5}}),
                SlipwayYard::leastPeak);
            Bounds.answers("without play", 144, PlanBounds::highest, SlipwayYard::leastPeak);
            Bounds.answers("the greatest length", 9, PlanBounds::longest, SlipwayYard::leastPeak);
        });
        Bounds.of(part, "Returns the means", () -> {
            Bounds.answers("without works", 0, Yards::empty, SlipwayYard::leastPeak);
            Bounds.answers("of works of no days", 0, () -> nothing(16), SlipwayYard::leastPeak);
        });
        Bounds.of(part, "Throws `IllegalStateException` if the product of all plays, each and 1, is above 5000", () -> {
            // times in 60 days: a factor is 61 less the time
            Bounds.answers("50 * 50 * 2, just 5000", 2, () -> beside(11, 11, 59), SlipwayYard::leastPeak);
            Bounds.answers("49 * 51 * 2, 4998", 2, () -> beside(12, 10, 59), SlipwayYard::leastPeak);
            Bounds.refuses("2 * 41 * 61, 5002", Bounds.STATE, () -> beside(59, 20, 0), SlipwayYard::leastPeak);
            Bounds.refuses("61 * 41 * 2, 5002", Bounds.STATE, () -> beside(0, 20, 59), SlipwayYard::leastPeak);
            Bounds.refuses("50 * 51 * 2", Bounds.STATE, () -> beside(11, 10, 59), SlipwayYard::leastPeak);
            Bounds.answers("40 * 5 * 5 * 5, just 5000", 4, () -> beside(21, 56, 56, 56), SlipwayYard::leastPeak);
            // 2 to the 12th is 4096, to the 13th 8192
            Bounds.answers("2 to the 12th", 12, () -> beside(59, 59, 59, 59, 59, 59, 59, 59, 59, 59, 59, 59),
                SlipwayYard::leastPeak);
            Bounds.refuses("2 to the 13th", Bounds.STATE, () -> beside(59, 59, 59, 59, 59, 59, 59, 59, 59, 59, 59, 59, 59),
                SlipwayYard::leastPeak);
            // products that an int or a long would take for 0
            Bounds.refuses("2 to the 35th", Bounds.STATE, () -> beside(29, 29, 29, 29, 29, 29, 29), SlipwayYard::leastPeak);
            Bounds.refuses("2 to the 65th", Bounds.STATE, () -> beside(29, 29, 29, 29, 29, 29, 29, 29, 29, 29, 29, 29, 29),
                SlipwayYard::leastPeak);
            Bounds.refuses("61 to the 15th", Bounds.STATE, () -> beside(0, 0, 0, 0, 0, 0, 0, 0, 0, 0, 0, 0, 0, 0, 0),
                SlipwayYard::leastPeak);
            Bounds.answers("1321, the greatest play and 1", 9, PlanBounds::mostPlay, SlipwayYard::leastPeak);
            // the first and the last work count like all others
            Bounds.refuses("73 * 73, work 0 and the last one", Bounds.STATE, PlanBounds::firstAndLast, SlipwayYard::leastPeak);
            // works that take no time or no means count, too
            Bounds.refuses("of no means", Bounds.STATE, () -> yard(new int[][] {{60, 0}, {0, 0}, {0, 0}, {0, 0}}),
                SlipwayYard::leastPeak);
        });
    }

    /** A work of 60 days without means, and works of so many days with one. */
    private static SlipwayYard beside(int... times) {
        SlipwayYard x = new SlipwayYard();
        x.work(60, 60, 0, 0);
        for (int time : times) {
            x.work(time, time, 0, 1);
        }
        return x;
    }

    /** Works 0 and 3 take no time, beside two works of 60 and 12 days. */
    private static SlipwayYard firstAndLast() {
        SlipwayYard x = yard(new int[][] {{0, 1}, {60, 1}, {12, 1}, {0, 1}});
        x.waits(2, 1, SlipwayYard.ENDS_BEGINS, 0);
        return x;
    }

    private static void meanPlays() {
        String part = "Promise 45";
        Bounds.none(part, "Returns the mean play of the works");
        Bounds.of(part, "all plays added up and converted to double, divided by the number of works", () -> {
            Bounds.answers("no play", 0.0, PlanBounds::longest, SlipwayYard::meanPlay);
            Bounds.answers("the greatest play by 16", 82.5, PlanBounds::mostPlay, SlipwayYard::meanPlay);
            Bounds.answers("1 by 3", 1.0 / 3.0, net("a=5;b=4;c=5"), SlipwayYard::meanPlay);
            Bounds.answers("1 by 16", 0.0625, PlanBounds::onePlay, SlipwayYard::meanPlay);
            Bounds.answers("900 by 16, all but one play", 56.25, PlanBounds::allPlay, SlipwayYard::meanPlay);
        });
        Bounds.of(part, "0.0 without works", () -> {
            Bounds.answers("meanPlay()", 0.0, Yards::empty, SlipwayYard::meanPlay);
            Bounds.answers("meanPlay() behind clearNet()", "16 0.0", PlanBounds::mostPlay,
                x -> x.clearNet() + " " + x.meanPlay());
        });
    }

    private static SlipwayYard onePlay() {
        SlipwayYard x = highest();
        x.set(3, 1, 0);
        x.set(3, 0, 59);
        return x;
    }

    private static SlipwayYard allPlay() {
        SlipwayYard x = nothing(15);
        x.work(60, 60, 0, 0);
        return x;
    }
}
