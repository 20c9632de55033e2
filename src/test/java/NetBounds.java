/** Section 2, works and waits, and promises 7 to 12. */
final class NetBounds {
    private static final String PART = "Section 2";

    private NetBounds() {
    }

    static void all() {
        works();
        waits();
        work();
        set();
        wait9();
        drop();
        clear();
    }

    /** A yard with so many works of a day. */
    private static SlipwayYard yard(int works) {
        SlipwayYard x = new SlipwayYard();
        for (int work = 0; work < works; work++) {
            x.work(1, 1, 0, 0);
        }
        return x;
    }

    /** Two works and so many waits of the second one. */
    private static SlipwayYard waiting(int waits) {
        SlipwayYard x = yard(2);
        for (int wait = 0; wait < waits; wait++) {
            x.waits(1, 0, SlipwayYard.ENDS_BEGINS, wait % 31);
        }
        return x;
    }

    private static void works() {
        Bounds.of(PART, "There are at most 16 works", () -> {
            Bounds.answers("the 16th work", 15, () -> yard(15), x -> x.work(1, 1, 0, 0));
            Bounds.refuses("a 17th work", Bounds.STATE, () -> yard(16), x -> x.work(1, 1, 0, 0));
            Bounds.answers("read() of 16 works with 16 works", "16 16", NetBounds::sixteenAndText,
                x -> x.read() + " " + x.works());
            Bounds.refuses("a 17th work behind read()", Bounds.STATE, NetBounds::sixteenRead, x -> x.work(1, 1, 0, 0));
            Bounds.answers("a work behind clearNet() of 16", "16 0", () -> yard(16),
                x -> x.clearNet() + " " + x.work(1, 1, 0, 0));
        });
        Bounds.of(PART, "each with a time, a least time, a price and means", () -> {
            Bounds.answers("what work 15 has", "60 0 1000 9", () -> yard(15), x -> {
                int work = x.work(60, 0, 1000, 9);
                return x.set(work, 0, 1) + " " + x.set(work, 1, 0) + " " + x.set(work, 2, 0) + " " + x.set(work, 3, 0);
            });
        });
        Bounds.of(PART, "it can be shortened down to its least time, each day for the price", () -> {
            SlipwayYard x = new SlipwayYard();
            x.work(60, 7, 1000, 0);
            Due.is("cost(60)", 0L, () -> x.cost(60));
            Due.is("cost(59)", 1000L, () -> x.cost(59));
            Due.is("cost(7)", 53000L, () -> x.cost(7));
            Due.is("cost(6)", -1L, () -> x.cost(6));
            Due.is("shortest()", 7, x::shortest);
            x.set(0, 1, 0);
            Due.is("cost(0)", 60000L, () -> x.cost(0));
            x.set(0, 1, 60);
            Due.is("cost(60) of a work that cannot be shortened", 0L, () -> x.cost(60));
            Due.is("cost(59) of it", -1L, () -> x.cost(59));
        });
    }

    private static SlipwayYard sixteenAndText() {
        SlipwayYard x = yard(16);
        Due.type(x, "a=1;b=1;c=1;d=1;e=1;f=1;g=1;h=1;i=1;j=1;k=1;l=1;m=1;n=1;o=1;p=1");
        return x;
    }

    private static SlipwayYard sixteenRead() {
        SlipwayYard x = sixteenAndText();
        x.read();
        return x;
    }

    private static void waits() {
        Bounds.of(PART, "There are at most 40 waits", () -> {
            Bounds.answers("the 40th wait", 40, () -> waiting(39), x -> x.waits(1, 0, 0, 0));
            Bounds.refuses("a 41st wait", Bounds.STATE, () -> waiting(40), x -> x.waits(1, 0, 0, 0));
            Bounds.answers("a wait behind a drop of 40", "39 40", () -> waiting(40), x -> x.drop(0) + " " + x.waits(1, 0, 0, 0));
            Bounds.refuses("a 41st wait behind 40 of a text", Bounds.STATE, NetBounds::fortyRead, x -> x.waits(1, 0, 0, 0));
        });
        Bounds.of(PART, "ENDS_BEGINS, it begins a lag behind the end of the other one, or later", () -> {
            sort(SlipwayYard.ENDS_BEGINS, 0, 7);
            sort(SlipwayYard.ENDS_BEGINS, 30, 37);
        });
        Bounds.of(PART, "BEGINS_BEGINS, it begins a lag behind the beginning of the other one, or later", () -> {
            sort(SlipwayYard.BEGINS_BEGINS, 0, 0);
            sort(SlipwayYard.BEGINS_BEGINS, 30, 30);
        });
        Bounds.of(PART, "ENDS_ENDS, it ends a lag behind the end of the other one, or later", () -> {
            sort(SlipwayYard.ENDS_ENDS, 0, 4);
            sort(SlipwayYard.ENDS_ENDS, 30, 34);
        });
        Bounds.of(PART, "BEGINS_ENDS, it ends a lag behind the beginning of the other one, or later", () -> {
            sort(SlipwayYard.BEGINS_ENDS, 0, 0);
            sort(SlipwayYard.BEGINS_ENDS, 3, 0);
            sort(SlipwayYard.BEGINS_ENDS, 4, 1);
            sort(SlipwayYard.BEGINS_ENDS, 30, 27);
        });
        Bounds.of(PART, "No work waits for itself, also through others", () -> {
            for (int sort = 0; sort < 4; sort++) {
                int its = sort;
                Bounds.refuses("a wait for itself, sort " + sort, Bounds.STATE, () -> yard(1), x -> x.waits(0, 0, its, 30));
                Bounds.refuses("two that wait for each other, sort " + sort, Bounds.STATE, () -> waiting(1),
                    x -> x.waits(0, 1, its, 0));
                Bounds.refuses("16 in a circle, sort " + sort, Bounds.STATE, NetBounds::chain, x -> x.waits(0, 15, its, 0));
            }
            Bounds.answers("two ways that are no circle", 16, NetBounds::chain, x -> x.waits(15, 0, 0, 0));
            // when the wait between has gone, there is no circle any more
            Bounds.answers("no circle any more", "14 15", NetBounds::chain, x -> x.drop(7) + " " + x.waits(0, 15, 0, 0));
            Bounds.answers("still a circle by the second of two waits", Bounds.STATE, () -> waiting(2),
                x -> x.drop(0) + " " + x.waits(0, 1, 0, 0));
        });
    }

    private static SlipwayYard fortyRead() {
        SlipwayYard x = yard(16);
        Due.type(x, "a=1;b=1" + ";a>b".repeat(40));
        x.read();
        return x;
    }

    /** 16 works, each waits for the one ahead. */
    private static SlipwayYard chain() {
        SlipwayYard x = yard(16);
        for (int work = 1; work < 16; work++) {
            x.waits(work, work - 1, work % 4, 0);
        }
        return x;
    }

    /** Work 1 of 3 days waits for work 0 of 7 days: work 1's earliest beginning, and a day sooner is not in the plan. */
    private static void sort(int sort, int lag, int early) {
        SlipwayYard x = new SlipwayYard();
        x.work(7, 7, 0, 0);
        x.work(3, 3, 0, 0);
        x.waits(1, 0, sort, lag);
        Due.is("early(1) with the lag " + lag, early, () -> x.early(1));
        int end = Math.max(7, early + 3);
        Due.is("length() with the lag " + lag, end, x::length);
        Due.is("late(1) with the lag " + lag, end - 3, () -> x.late(1));
        Due.is("the other one begins at 0", 0, () -> x.early(0));
        // how much the other one can begin later: up to its end, or by the wait of the work at its latest
        Due.is("late(0) with the lag " + lag, Math.min(end - 7, end - 3 - tells(sort, lag)), () -> x.late(0));
    }

    /** By how much the beginning of work 1 is behind that of work 0, also below 0. */
    private static int tells(int sort, int lag) {
        int[] gap = {7, 0, 4, -3};
        return gap[sort] + lag;
    }

    private static void work() {
        String part = "Promise 7";
        Bounds.none(part, "Makes a work");
        Bounds.of(part, "`time`: 0 to 60", () -> Bounds.range("time", 0, "5 0", 60, "5 60", Bounds.ARGUMENT, Yards::busy,
            (x, v) -> x.work(v, 0, 0, 0) + " " + x.set(5, 0, v)));
        Bounds.of(part, "`least`: 0 to time", () -> {
            Bounds.range("least", 0, "5 0", 60, "5 60", Bounds.ARGUMENT, Yards::busy,
                (x, v) -> x.work(60, v, 0, 0) + " " + x.set(5, 1, v));
            Bounds.range("least", 0, "5 0", 7, "5 7", Bounds.ARGUMENT, Yards::busy,
                (x, v) -> x.work(7, v, 0, 0) + " " + x.set(5, 1, v));
            Bounds.range("least", 0, "5 0", 0, "5 0", Bounds.ARGUMENT, Yards::busy,
                (x, v) -> x.work(0, v, 0, 0) + " " + x.set(5, 1, v));
        });
        Bounds.of(part, "`price`: 0 to 1000", () -> Bounds.range("price", 0, "5 0", 1000, "5 1000", Bounds.ARGUMENT,
            Yards::busy, (x, v) -> x.work(1, 1, v, 0) + " " + x.set(5, 2, 0)));
        Bounds.of(part, "`means`: 0 to 9", () -> Bounds.range("means", 0, "5 0", 9, "5 9", Bounds.ARGUMENT, Yards::busy,
            (x, v) -> x.work(1, 1, 0, v) + " " + x.set(5, 3, 0)));
        Bounds.of(part, "Returns its number", () -> {
            Bounds.answers("the first work", 0, Yards::empty, x -> x.work(0, 0, 0, 0));
            Bounds.answers("the 16th work", 15, () -> yard(15), x -> x.work(60, 60, 1000, 9));
        });
        Bounds.of(part, "Throws `IllegalArgumentException` if a parameter is out of range", () -> {
            Bounds.refuses("work(MIN_VALUE, MIN_VALUE, 0, 0)", Bounds.ARGUMENT, Yards::busy,
                x -> x.work(Integer.MIN_VALUE, Integer.MIN_VALUE, 0, 0));
            Bounds.refuses("work(MAX_VALUE, MAX_VALUE, 0, 0)", Bounds.ARGUMENT, Yards::busy,
                x -> x.work(Integer.MAX_VALUE, Integer.MAX_VALUE, 0, 0));
            Bounds.refuses("work(0, 0, 1001, 9)", Bounds.ARGUMENT, Yards::empty, x -> x.work(0, 0, 1001, 9));
            Bounds.refuses("work(0, 0, 1000, 10)", Bounds.ARGUMENT, Yards::empty, x -> x.work(0, 0, 1000, 10));
            Bounds.refuses("work(60, 61, 0, 0) with 16", Bounds.ARGUMENT, () -> yard(16), x -> x.work(60, 61, 0, 0));
        });
        Bounds.of(part, "Throws `IllegalStateException` if there are 16", () -> {
            Bounds.refuses("work(0, 0, 0, 0)", Bounds.STATE, () -> yard(16), x -> x.work(0, 0, 0, 0));
            Bounds.refuses("work(60, 60, 1000, 9)", Bounds.STATE, Yards::fullNet, x -> x.work(60, 60, 1000, 9));
        });
    }

    private static void set() {
        String part = "Promise 8";
        Bounds.none(part, "Sets something of a work");
        Bounds.of(part, "`work`: number of a work", () -> {
            Bounds.range("work", 0, 10, 4, 7, Bounds.INDEX, Yards::busy, (x, v) -> x.set(v, 2, 1));
            Bounds.range("work", 0, 0, 15, 0, Bounds.INDEX, () -> yard(16), (x, v) -> x.set(v, 2, 1));
        });
        Bounds.of(part, "`what`: 0 for its time, 1 for its least time, 2 for its price, 3 for its means", () -> {
            Bounds.range("what", 0, 5, 3, 2, Bounds.ARGUMENT, Yards::busy, (x, v) -> x.set(0, v, 3));
            int[] was = {5, 2, 10, 2};
            for (int what = 0; what < 4; what++) {
                int its = what;
                int[] then = was.clone();
                then[what] = 4;
                Bounds.answers("only what is set", was[what] + " " + then[3] + then[2] + then[1] + then[0], Yards::busy,
                    x -> x.set(0, its, 4) + " " + x.set(0, 3, 0) + x.set(0, 2, 0) + x.set(0, 1, 0) + x.set(0, 0, 0));
            }
        });
        Bounds.of(part, "`value`: as in work()", () -> {
            Bounds.range("the price", 0, "10 0", 1000, "10 1000", Bounds.ARGUMENT, Yards::busy,
                (x, v) -> x.set(0, 2, v) + " " + x.set(0, 2, 7));
            Bounds.range("the means", 0, "2 0", 9, "2 9", Bounds.ARGUMENT, Yards::busy,
                (x, v) -> x.set(0, 3, v) + " " + x.set(0, 3, 7));
        });
        Bounds.of(part, "a time that is not below the least time as it is", () -> {
            Bounds.range("the time", 2, "5 2", 60, "5 60", Bounds.ARGUMENT, Yards::busy,
                (x, v) -> x.set(0, 0, v) + " " + x.set(0, 0, v));
            Bounds.range("the time that is the least one", 6, "6 6", 60, "6 60", Bounds.ARGUMENT, Yards::busy,
                (x, v) -> x.set(2, 0, v) + " " + x.set(2, 0, v));
            Bounds.range("the time of a least one of 0", 0, "3 0", 60, "3 60", Bounds.ARGUMENT, Yards::busy,
                (x, v) -> x.set(4, 0, v) + " " + x.set(4, 0, v));
            // the least time as it is then, not as it was
            Bounds.answers("the time 1", "2 5 1", Yards::busy,
                x -> x.set(0, 1, 1) + " " + x.set(0, 0, 1) + " " + x.set(0, 0, 1));
            Bounds.refuses("the time 60 less 1", Bounds.ARGUMENT, NetBounds::all60, x -> x.set(0, 0, 59));
        });
        Bounds.of(part, "a least time that is not above the time", () -> {
            Bounds.range("the least time", 0, "2 0", 5, "2 5", Bounds.ARGUMENT, Yards::busy,
                (x, v) -> x.set(0, 1, v) + " " + x.set(0, 1, v));
            Bounds.range("the least time that is the time", 0, "6 0", 6, "6 6", Bounds.ARGUMENT, Yards::busy,
                (x, v) -> x.set(2, 1, v) + " " + x.set(2, 1, v));
            Bounds.range("the least time of a time of 0", 0, "0 0", 0, "0 0", Bounds.ARGUMENT, Yards::busy,
                (x, v) -> x.set(3, 1, v) + " " + x.set(3, 1, v));
            Bounds.range("the least time of a time of 60", 0, "60 0", 60, "60 60", Bounds.ARGUMENT, NetBounds::all60,
                (x, v) -> x.set(0, 1, v) + " " + x.set(0, 1, v));
        });
        Bounds.of(part, "Returns what it was", () -> {
            Bounds.answers("set to what it is", "10 10 10", Yards::busy,
                x -> x.set(0, 2, 10) + " " + x.set(0, 2, 10) + " " + x.set(0, 2, 0));
            Bounds.answers("from 0 to the greatest and back", "0 1000 0", () -> yard(1),
                x -> x.set(0, 2, 1000) + " " + x.set(0, 2, 0) + " " + x.set(0, 2, 0));
        });
        Bounds.of(part, "Throws `IndexOutOfBoundsException` if there is no such work", () -> {
            Bounds.refuses("set(0, 0, 0) without works", Bounds.INDEX, Yards::empty, x -> x.set(0, 0, 0));
            Bounds.refuses("set(5, 9, 99) of 5 works", Bounds.INDEX, Yards::busy, x -> x.set(5, 9, 99));
        });
        Bounds.of(part, "Throws `IllegalArgumentException` if what or value is out of range", () -> {
            Bounds.refuses("set(0, 4, 0)", Bounds.ARGUMENT, Yards::busy, x -> x.set(0, 4, 0));
            Bounds.refuses("set(0, -1, 3)", Bounds.ARGUMENT, Yards::busy, x -> x.set(0, -1, 3));
            Bounds.refuses("set(0, 3, 10)", Bounds.ARGUMENT, Yards::busy, x -> x.set(0, 3, 10));
            Bounds.refuses("set(0, MIN_VALUE, MAX_VALUE)", Bounds.ARGUMENT, Yards::busy,
                x -> x.set(0, Integer.MIN_VALUE, Integer.MAX_VALUE));
        });
    }

    private static SlipwayYard all60() {
        SlipwayYard x = new SlipwayYard();
        x.work(60, 60, 0, 0);
        return x;
    }

    private static void wait9() {
        String part = "Promise 9";
        Bounds.none(part, "Makes a wait of a work for another one");
        Bounds.of(part, "`work`: number of the work that waits", () -> Bounds.range("work", 0, "5", 15, "5 10",
            Bounds.INDEX, NetBounds::fourWaits, NetBounds::waitFor7));
        Bounds.of(part, "`other`: number of the work for which it waits", () -> Bounds.range("other", 0, "5 10", 15, "5 10",
            Bounds.INDEX, NetBounds::fourWaits, (x, v) -> x.waits(7, v, 0, 9) + " " + x.early(7)));
        // work 1 takes a day
        Bounds.of(part, "`sort`: ENDS_BEGINS to BEGINS_ENDS", () -> Bounds.range("sort", SlipwayYard.ENDS_BEGINS, "2 10",
            SlipwayYard.BEGINS_ENDS, "2 8", Bounds.ARGUMENT, () -> waiting(1),
            (x, v) -> x.waits(1, 0, v, 9) + " " + x.early(1)));
        Bounds.of(part, "`lag`: 0 to 30", () -> Bounds.range("lag", 0, "2 1", 30, "2 31", Bounds.ARGUMENT,
            () -> waiting(1), (x, v) -> x.waits(1, 0, 0, v) + " " + x.early(1)));
        Bounds.of(part, "Returns how many waits there are then", () -> {
            Bounds.answers("the first wait", 1, () -> waiting(0), x -> x.waits(1, 0, 3, 30));
            Bounds.answers("the 40th wait", 40, () -> waiting(39), x -> x.waits(1, 0, 3, 30));
            Bounds.answers("the same wait twice", "1 2", () -> waiting(0), x -> x.waits(1, 0, 0, 5) + " " + x.waits(1, 0, 0, 5));
        });
        Bounds.of(part, "Throws `IndexOutOfBoundsException` if there is no such work", () -> {
            Bounds.refuses("waits(0, 0, 0, 0) without works", Bounds.INDEX, Yards::empty, x -> x.waits(0, 0, 0, 0));
            Bounds.refuses("waits(5, 5, 0, 0), neither is there", Bounds.INDEX, Yards::busy, x -> x.waits(5, 5, 0, 0));
            Bounds.refuses("waits(4, 5, 4, 31)", Bounds.INDEX, Yards::busy, x -> x.waits(4, 5, 4, 31));
            Bounds.refuses("waits(-1, 4, 4, 31)", Bounds.INDEX, Yards::busy, x -> x.waits(-1, 4, 4, 31));
            Bounds.refuses("waits(16, 0, 0, 0) with 40 waits", Bounds.INDEX, Yards::fullNet, x -> x.waits(16, 0, 0, 0));
        });
        Bounds.of(part, "Throws `IllegalArgumentException` if sort or lag is out of range", () -> {
            Bounds.refuses("waits(1, 1, 4, 0), for itself", Bounds.ARGUMENT, Yards::busy, x -> x.waits(1, 1, 4, 0));
            Bounds.refuses("waits(0, 1, 0, 31), in a circle", Bounds.ARGUMENT, Yards::busy, x -> x.waits(0, 1, 0, 31));
            Bounds.refuses("waits(1, 0, -1, -1) with 40 waits", Bounds.ARGUMENT, Yards::fullNet, x -> x.waits(1, 0, -1, -1));
        });
        Bounds.of(part, "Throws `IllegalStateException` if a work would wait for itself", () -> {
            Bounds.refuses("waits(0, 0, 0, 0)", Bounds.STATE, Yards::busy, x -> x.waits(0, 0, 0, 0));
            Bounds.refuses("waits(4, 4, 3, 30)", Bounds.STATE, Yards::busy, x -> x.waits(4, 4, 3, 30));
            Bounds.refuses("waits(0, 4, 0, 0), through work 2", Bounds.STATE, Yards::busy, x -> x.waits(0, 4, 0, 0));
            Bounds.refuses("waits(0, 15, 0, 0) with 40 waits", Bounds.STATE, Yards::fullNet, x -> x.waits(0, 15, 0, 0));
        });
        Bounds.of(part, "or there are 40 waits", () -> {
            Bounds.refuses("waits(1, 0, 0, 0)", Bounds.STATE, () -> waiting(40), x -> x.waits(1, 0, 0, 0));
            Bounds.refuses("waits(15, 0, 3, 30)", Bounds.STATE, Yards::fullNet, x -> x.waits(15, 0, 3, 30));
        });
    }

    /** 16 works of a day, four of them wait for the one ahead. */
    private static SlipwayYard fourWaits() {
        SlipwayYard x = yard(16);
        for (int work = 2; work < 6; work++) {
            x.waits(work, work - 1, SlipwayYard.ENDS_BEGINS, 0);
        }
        return x;
    }

    private static String waitFor7(SlipwayYard x, int work) {
        int waits = x.waits(work, 7, SlipwayYard.ENDS_BEGINS, 9);
        return work == 0 ? String.valueOf(waits) : waits + " " + x.early(work);
    }

    private static void drop() {
        String part = "Promise 10";
        Bounds.of(part, "those behind it have the numbers 1 less then", () -> {
            // lags 0 to 39 modulo 31: 30 is the greatest, the wait 30 has it
            Bounds.answers("drop(30), the greatest lag", "31 39 30", () -> waiting(40),
                x -> x.early(1) + " " + x.drop(30) + " " + x.early(1));
            Bounds.answers("drop(29) behind drop(0)", "39 38 30", () -> waiting(40),
                x -> x.drop(0) + " " + x.drop(29) + " " + x.early(1));
            Bounds.answers("drop(30) behind drop(0)", "39 38 31", () -> waiting(40),
                x -> x.drop(0) + " " + x.drop(30) + " " + x.early(1));
            Bounds.answers("drop(30) behind drop(39)", "39 38 30", () -> waiting(40),
                x -> x.drop(39) + " " + x.drop(30) + " " + x.early(1));
            // the sorts and works go with the numbers
            Bounds.answers("the last of 4 behind drop(0)", "3 2 0", Yards::busy,
                x -> x.drop(0) + " " + x.drop(2) + " " + x.early(3));
            Bounds.answers("the sorts behind drop(0)", "3 0 3 6 5", Yards::busy,
                x -> x.drop(0) + " " + x.early(1) + " " + x.early(2) + " " + x.early(4) + " " + x.early(3));
            Bounds.answers("the first of 4 behind drop(3)", "3 2 0", Yards::busy,
                x -> x.drop(3) + " " + x.drop(0) + " " + x.early(1));
        });
        Bounds.of(part, "`wait`: number of a wait", () -> {
            Bounds.range("wait", 0, 39, 39, 39, Bounds.INDEX, () -> waiting(40), SlipwayYard::drop);
            Bounds.range("wait", 0, 3, 3, 3, Bounds.INDEX, Yards::busy, SlipwayYard::drop);
            Bounds.range("wait", 0, 0, 0, 0, Bounds.INDEX, () -> waiting(1), SlipwayYard::drop);
        });
        Bounds.of(part, "Returns how many waits there are then", () -> {
            Bounds.answers("drop of the only wait", "0 0", () -> waiting(1), x -> x.drop(0) + " " + x.early(1));
            Bounds.answers("drop of 40", 39, () -> waiting(40), x -> x.drop(0));
        });
        Bounds.of(part, "Throws `IndexOutOfBoundsException` if there is no such wait", () -> {
            Bounds.refuses("drop(0) without works", Bounds.INDEX, Yards::empty, x -> x.drop(0));
            Bounds.refuses("drop(0) without waits", Bounds.INDEX, () -> waiting(0), x -> x.drop(0));
            Bounds.refuses("drop(40) of 40", Bounds.INDEX, () -> waiting(40), x -> x.drop(40));
            Bounds.refuses("drop(-1) of 40", Bounds.INDEX, () -> waiting(40), x -> x.drop(-1));
        });
    }

    private static void clear() {
        Bounds.of("Promise 11", "Removes all works and waits", () -> {
            Bounds.answers("clearNet()", "16 0 0 0 0", Yards::fullNet,
                x -> x.clearNet() + " " + x.works() + " " + x.length() + " " + x.rows() + " " + x.rowAt(-1));
            Bounds.answers("no wait is left", Bounds.INDEX, Yards::fullNet, x -> x.clearNet() + x.drop(0));
            Bounds.answers("40 waits behind it", "16 0 1 1", Yards::fullNet, x -> x.clearNet() + " "
                + x.work(0, 0, 0, 0) + " " + x.work(0, 0, 0, 0) + " " + x.waits(0, 1, 0, 0));
            Bounds.answers("the delays have gone with the works", "5 0 0 0", Yards::busy,
                x -> x.clearNet() + " " + x.work(0, 0, 0, 0) + " " + x.lateLength(15) + " " + x.delay(0, 0, 1));
        });
        Bounds.of("Promise 11", "Returns how many works there were", () -> {
            Bounds.answers("clearNet() without works", 0, Yards::empty, SlipwayYard::clearNet);
            Bounds.answers("clearNet() twice", "16 0", () -> yard(16), x -> x.clearNet() + " " + x.clearNet());
        });
        Bounds.none("Promise 12", "Returns the number of works");
        Bounds.of("Promise 12", "Returns how many there are", () -> {
            Bounds.answers("works() without works", 0, Yards::empty, SlipwayYard::works);
            Bounds.answers("works() of 1", 1, () -> yard(1), SlipwayYard::works);
            Bounds.answers("works() of 16", 16, () -> yard(16), SlipwayYard::works);
        });
    }
}
