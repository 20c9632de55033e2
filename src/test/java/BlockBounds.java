/** Section 5, blocks, and promises 29 to 34 and 46. */
final class BlockBounds {
    private static final String PART = "Section 5";

    private BlockBounds() {
    }

    static void all() {
        terms();
        block();
        put();
        takeAway();
        weight();
        middle();
        trim();
        putShare();
    }

    /** So many blocks of one cell, the first ones of them put in a row from 0 on. */
    private static Bounds.Recipe cells(int blocks, int put) {
        return () -> {
            SlipwayYard x = new SlipwayYard();
            for (int block = 0; block < blocks; block++) {
                x.block(1, 1, 1, 1);
                if (block < put) {
                    x.put(block, block, 0, 0);
                }
            }
            return x;
        };
    }

    /** A block of 2 * 3 * 4 cells at 50, 50 and 50, and one of 5 * 6 * 7 that is not put. */
    private static SlipwayYard two() {
        SlipwayYard x = new SlipwayYard();
        x.block(2, 3, 4, 1);
        x.block(5, 6, 7, 1);
        x.put(0, 50, 50, 50);
        return x;
    }

    /** 20 of the greatest and heaviest blocks, all put. */
    private static SlipwayYard heaviest() {
        SlipwayYard x = new SlipwayYard();
        for (int block = 0; block < 20; block++) {
            x.block(9, 9, 9, 99);
            x.put(block, 99, block * 9 % 99, block / 11 * 9);
        }
        return x;
    }

    private static void terms() {
        Bounds.of(PART, "A block is a box of cells, so long, wide and high", () -> {
            Bounds.answers("the weight of 9 * 8 * 7 cells", "1 true 504", cells(1, 0),
                x -> x.block(9, 8, 7, 1) + " " + x.put(1, 0, 0, 0) + " " + x.weight());
            // cells 9, 8 and 7 ahead are free, those one less are not
            int[][] free = {{9, 0, 0}, {0, 8, 0}, {0, 0, 7}};
            for (int[] at : free) {
                Bounds.answers("a cell just beside the box", true, BlockBounds::box, x -> x.put(1, at[0], at[1], at[2]));
                Bounds.answers("a cell just within it", false, BlockBounds::box, x -> x.put(1, at[0] - Math.min(1, at[0]),
                    at[1] - Math.min(1, at[1]), at[2] - Math.min(1, at[2])));
            }
        });
        Bounds.of(PART, "each cell with the same weight", () -> Bounds.answers("2 cells of 99 and one of 1", "1 true 199",
            cells(1, 1), x -> x.block(2, 1, 1, 99) + " " + x.put(1, 9, 9, 9) + " " + x.weight()));
        Bounds.of(PART, "its least corner at x, y and z (0 to 99 each)", () -> {
            Bounds.answers("at 0 0 0", "true 1 2", cells(1, 0), x -> x.put(0, 0, 0, 0) + " " + fraction(x, 2));
            // a box may lead beyond 99; its cells are there, too
            Bounds.answers("at 99 99 99", "true 207 2", BlockBounds::nine,
                x -> x.put(0, 99, 99, 99) + " " + fraction(x, 0));
            Bounds.answers("two beyond 99", "true false", BlockBounds::nine,
                x -> x.put(0, 99, 99, 99) + " " + x.put(1, 99, 99, 99));
            Bounds.answers("two that meet beyond 99 only", "true false", BlockBounds::nine,
                x -> x.put(0, 99, 0, 0) + " " + x.put(1, 91, 0, 8));
        });
        Bounds.of(PART, "two blocks that are put never have a cell in common", () -> {
            int[][] beside = {{45, 50, 50}, {52, 50, 50}, {50, 44, 50}, {50, 53, 50}, {50, 50, 43}, {50, 50, 54}};
            int[][] into = {{46, 50, 50}, {51, 50, 50}, {50, 45, 50}, {50, 52, 50}, {50, 50, 44}, {50, 50, 53}};
            for (int k = 0; k < 6; k++) {
                int[] at = beside[k];
                int[] within = into[k];
                Bounds.answers("side by side " + k, true, BlockBounds::two, x -> x.put(1, at[0], at[1], at[2]));
                Bounds.answers("a layer in common " + k, false, BlockBounds::two, x -> x.put(1, within[0], within[1], within[2]));
            }
            Bounds.answers("one corner's cell in common", false, BlockBounds::two, x -> x.put(1, 46, 45, 44));
            Bounds.answers("the other corner's cell in common", false, BlockBounds::two, x -> x.put(1, 51, 52, 53));
            Bounds.answers("edge by edge", true, BlockBounds::two, x -> x.put(1, 45, 44, 50));
            Bounds.answers("corner by corner", true, BlockBounds::two, x -> x.put(1, 45, 44, 43));
            Bounds.answers("one within the other", false, BlockBounds::two, x -> x.put(1, 49, 49, 49));
            Bounds.answers("the other within the one", false, BlockBounds::within, x -> x.put(1, 2, 2, 2));
        });
        Bounds.of(PART, "each times its middle (x and a half, and so on)", () -> {
            Bounds.answers("one cell at 0", "1 2", cells(1, 1), x -> fraction(x, 0));
            Bounds.answers("9 cells from 99 on", "207 2", BlockBounds::heaviest, x -> fraction(x, 0));
        });
        Bounds.of(PART, "The trim by a place p is the sum of the weights times", () -> {
            Bounds.answers("by its own middle", 0L, BlockBounds::two, x -> x.trim(51));
            Bounds.answers("by a place ahead of it", 48L, BlockBounds::two, x -> x.trim(50));
            Bounds.answers("by a place behind it", -48L, BlockBounds::two, x -> x.trim(52));
        });
    }

    private static SlipwayYard nine() {
        SlipwayYard x = new SlipwayYard();
        x.block(9, 9, 9, 1);
        x.block(9, 9, 9, 1);
        return x;
    }

    private static SlipwayYard box() {
        SlipwayYard x = new SlipwayYard();
        x.block(9, 8, 7, 1);
        x.block(1, 1, 1, 1);
        x.put(0, 0, 0, 0);
        return x;
    }

    private static SlipwayYard within() {
        SlipwayYard x = new SlipwayYard();
        x.block(9, 9, 9, 1);
        x.block(1, 1, 1, 1);
        x.put(0, 0, 0, 0);
        return x;
    }

    private static String fraction(SlipwayYard x, int direction) {
        return x.middle(direction, false) + " " + x.middle(direction, true);
    }

    private static void block() {
        String part = "Promise 29";
        Bounds.of(part, "Makes a block, which is not put", () -> {
            Bounds.answers("the 20th block", "19 false 0", cells(19, 0),
                x -> x.block(9, 9, 9, 99) + " " + x.takeAway(19) + " " + x.weight());
        });
        Bounds.of(part, "`length`: 1 to 9, in the direction of x", () -> Bounds.range("length", 1, "3 1 2", 9, "3 9 2",
            Bounds.ARGUMENT, Yards::busy, (x, v) -> x.block(v, 1, 1, 1) + " " + alone(x, 0)));
        Bounds.of(part, "`width`: 1 to 9, in that of y", () -> Bounds.range("width", 1, "3 1 2", 9, "3 9 2",
            Bounds.ARGUMENT, Yards::busy, (x, v) -> x.block(1, v, 1, 1) + " " + alone(x, 1)));
        Bounds.of(part, "`height`: 1 to 9, in that of z", () -> Bounds.range("height", 1, "3 1 2", 9, "3 9 2",
            Bounds.ARGUMENT, Yards::busy, (x, v) -> x.block(1, 1, v, 1) + " " + alone(x, 2)));
        Bounds.of(part, "`weight`: 1 to 99, of each cell", () -> Bounds.range("weight", 1, "3 8", 99, "3 792",
            Bounds.ARGUMENT, Yards::busy, (x, v) -> x.block(2, 2, 2, v) + " " + weightAlone(x)));
        Bounds.of(part, "Returns its number", () -> {
            Bounds.answers("the first block", 0, Yards::empty, x -> x.block(1, 1, 1, 1));
            Bounds.answers("the 20th block", 19, cells(19, 19), x -> x.block(1, 1, 1, 1));
        });
        Bounds.of(part, "Throws `IllegalArgumentException` if a parameter is out of range", () -> {
            Bounds.refuses("block(0, 0, 0, 0)", Bounds.ARGUMENT, Yards::busy, x -> x.block(0, 0, 0, 0));
            Bounds.refuses("block(1, 1, 1, 100) with 20", Bounds.ARGUMENT, cells(20, 5), x -> x.block(1, 1, 1, 100));
            Bounds.refuses("block(10, 1, 1, 1) with 20", Bounds.ARGUMENT, cells(20, 5), x -> x.block(10, 1, 1, 1));
        });
        Bounds.of(part, "Throws `IllegalStateException` if there are 20", () -> {
            Bounds.refuses("a 21st block", Bounds.STATE, cells(20, 0), x -> x.block(1, 1, 1, 1));
            Bounds.refuses("a 21st block", Bounds.STATE, cells(20, 20), x -> x.block(9, 9, 9, 99));
        });
    }

    /** The middle of block 3 of a busy yard, put alone at 0 0 0. */
    private static String alone(SlipwayYard x, int direction) {
        x.takeAway(0);
        x.takeAway(1);
        x.put(3, 0, 0, 0);
        return fraction(x, direction);
    }

    private static long weightAlone(SlipwayYard x) {
        alone(x, 0);
        return x.weight();
    }

    private static void put() {
        String part = "Promise 30";
        Bounds.of(part, "Puts a block, or puts it somewhere else", () -> {
            // its own cells are not in its way
            Bounds.answers("where it is", "true 51 1", BlockBounds::two, x -> x.put(0, 50, 50, 50) + " " + fraction(x, 0));
            Bounds.answers("one cell further", "true 52 1", BlockBounds::two, x -> x.put(0, 51, 50, 50) + " " + fraction(x, 0));
            Bounds.answers("its old place is free for another", "true true", BlockBounds::two,
                x -> x.put(0, 0, 0, 0) + " " + x.put(1, 50, 50, 50));
        });
        Bounds.of(part, "unless it would have a cell in common with another one there", () -> {
            // it stays where it is then, or stays away
            Bounds.answers("a block that stays away", "false 24 false", BlockBounds::two,
                x -> x.put(1, 50, 50, 50) + " " + x.weight() + " " + x.takeAway(1));
            Bounds.answers("a block that stays where it is", "true false true 51 1", BlockBounds::two,
                x -> x.put(1, 60, 0, 0) + " " + x.put(0, 60, 0, 0) + " " + x.takeAway(1) + " " + fraction(x, 0));
            Bounds.answers("where one was taken away", "true true", BlockBounds::two,
                x -> x.takeAway(0) + " " + x.put(1, 50, 50, 50));
        });
        Bounds.of(part, "`block`: number of a block", () -> {
            Bounds.range("block", 0, true, 19, true, Bounds.INDEX, cells(20, 20), (x, v) -> x.put(v, 99, 99, 99));
            Bounds.range("block", 0, true, 0, true, Bounds.INDEX, cells(1, 0), (x, v) -> x.put(v, 99, 99, 99));
        });
        Bounds.of(part, "`x`: 0 to 99", () -> Bounds.range("x", 0, "true 1 2", 99, "true 199 2", Bounds.ARGUMENT, cells(1, 1),
            (x, v) -> x.put(0, v, 5, 5) + " " + fraction(x, 0)));
        Bounds.of(part, "`y`: 0 to 99", () -> Bounds.range("y", 0, "true 1 2", 99, "true 199 2", Bounds.ARGUMENT, cells(1, 1),
            (x, v) -> x.put(0, 5, v, 5) + " " + fraction(x, 1)));
        Bounds.of(part, "`z`: 0 to 99", () -> Bounds.range("z", 0, "true 1 2", 99, "true 199 2", Bounds.ARGUMENT, cells(1, 1),
            (x, v) -> x.put(0, 5, 5, v) + " " + fraction(x, 2)));
        Bounds.of(part, "Returns whether it was done", () -> {
            Bounds.answers("the 20th beside 19", true, cells(20, 19), x -> x.put(19, 19, 0, 0));
            Bounds.answers("the 20th on the 19th", false, cells(20, 19), x -> x.put(19, 18, 0, 0));
            Bounds.answers("the first on the last", false, cells(20, 20), x -> x.put(0, 19, 0, 0));
        });
        Bounds.of(part, "Throws `IndexOutOfBoundsException` if there is no such block", () -> {
            Bounds.refuses("put(0, 0, 0, 0) without blocks", Bounds.INDEX, Yards::empty, x -> x.put(0, 0, 0, 0));
            Bounds.refuses("put(20, 100, 0, 0) of 20", Bounds.INDEX, cells(20, 20), x -> x.put(20, 100, 0, 0));
        });
        Bounds.of(part, "Throws `IllegalArgumentException` if a parameter is out of range", () -> {
            // also where another block would be in the way
            Bounds.refuses("put(0, 100, 0, 0)", Bounds.ARGUMENT, cells(2, 2), x -> x.put(0, 100, 0, 0));
            Bounds.refuses("put(0, 1, 0, -1)", Bounds.ARGUMENT, cells(2, 2), x -> x.put(0, 1, 0, -1));
        });
    }

    private static void takeAway() {
        String part = "Promise 31";
        Bounds.of(part, "Takes a block away", () -> Bounds.answers("the only one", "true 0 0.0", cells(1, 1),
            x -> x.takeAway(0) + " " + x.weight() + " " + x.putShare()));
        Bounds.of(part, "`block`: number of a block", () -> {
            Bounds.range("block", 0, true, 19, false, Bounds.INDEX, cells(20, 19), SlipwayYard::takeAway);
            Bounds.range("block", 0, true, 0, true, Bounds.INDEX, cells(1, 1), SlipwayYard::takeAway);
        });
        Bounds.of(part, "Returns whether it was put", () -> {
            Bounds.answers("of a new block", false, cells(1, 0), x -> x.takeAway(0));
            Bounds.answers("twice", "true false", cells(1, 1), x -> x.takeAway(0) + " " + x.takeAway(0));
            Bounds.answers("behind a put that was refused", "false false", cells(2, 1), x -> x.put(1, 0, 0, 0) + " " + x.takeAway(1));
        });
        Bounds.of(part, "Throws `IndexOutOfBoundsException` if there is no such block", () -> {
            Bounds.refuses("takeAway(0) without blocks", Bounds.INDEX, Yards::empty, x -> x.takeAway(0));
            Bounds.refuses("takeAway(20) of 20", Bounds.INDEX, cells(20, 20), x -> x.takeAway(20));
        });
    }

    private static void weight() {
        Bounds.none("Promise 32", "Returns the weight of what is put");
        Bounds.of("Promise 32", "Returns the sum of the weights of all cells", () -> {
            Bounds.answers("without blocks", 0L, Yards::empty, SlipwayYard::weight);
            Bounds.answers("without blocks that are put", 0L, cells(20, 0), SlipwayYard::weight);
            Bounds.answers("the least one", 1L, cells(1, 1), SlipwayYard::weight);
            Bounds.answers("the greatest one", 20L * 729 * 99, BlockBounds::heaviest, SlipwayYard::weight);
        });
    }

    private static void middle() {
        String part = "Promise 33";
        Bounds.none(part, "Returns the middle of what is put, as a fraction");
        Bounds.of(part, "`direction`: 0 for x, 1 for y, 2 for z", () -> Bounds.range("direction", 0, "51 1", 2, "52 1",
            Bounds.ARGUMENT, BlockBounds::two, BlockBounds::fraction));
        Bounds.of(part, "`isUnder`: true for what is below the line, false for what is above it", () -> {
            Bounds.answers("the greatest middle", "207 2", BlockBounds::heaviest, x -> fraction(x, 0));
            Bounds.answers("the least middle", "1 2", cells(1, 1), x -> fraction(x, 2));
        });
        Bounds.none(part, "Returns this");
        Bounds.of(part, "Throws `IllegalArgumentException` if direction is out of range", () -> {
            Bounds.refuses("middle(3, true) of nothing", Bounds.ARGUMENT, Yards::empty, x -> x.middle(3, true));
            Bounds.refuses("middle(-1, false) of nothing", Bounds.ARGUMENT, cells(3, 0), x -> x.middle(-1, false));
        });
        Bounds.of(part, "Throws `NoSuchElementException` if nothing is put", () -> {
            for (int direction = 0; direction < 3; direction++) {
                int its = direction;
                Bounds.refuses("middle without blocks", Bounds.ELEMENT, Yards::empty, x -> x.middle(its, true));
                Bounds.refuses("middle without blocks that are put", Bounds.ELEMENT, cells(20, 0), x -> x.middle(its, false));
                Bounds.answers("middle when the last one is taken away", Bounds.ELEMENT, cells(1, 1),
                    x -> x.takeAway(0) + " " + x.middle(its, true));
            }
        });
    }

    private static void trim() {
        String part = "Promise 34";
        Bounds.of(part, "Returns twice the trim by a place", () -> {
            long weight = 20L * 729 * 99;
            Bounds.answers("the greatest one", weight * 207, BlockBounds::heaviest, x -> x.trim(0));
            Bounds.answers("the least one", -189L * 729 * 99, BlockBounds::farAhead, x -> x.trim(99));
        });
        Bounds.of(part, "`place`: 0 to 99", () -> {
            Bounds.range("place", 0, 1L, 99, -197L, Bounds.ARGUMENT, cells(1, 1), SlipwayYard::trim);
            Bounds.range("place", 0, 0L, 99, 0L, Bounds.ARGUMENT, Yards::empty, SlipwayYard::trim);
        });
        Bounds.of(part, "0 if nothing is put", () -> {
            Bounds.answers("trim(99) without blocks", 0L, Yards::empty, x -> x.trim(99));
            Bounds.answers("trim(0) without blocks that are put", 0L, cells(20, 0), x -> x.trim(0));
            Bounds.answers("trim(50) when the last one is taken away", "true 0", cells(1, 1),
                x -> x.takeAway(0) + " " + x.trim(50));
        });
        Bounds.of(part, "Throws `IllegalArgumentException` if place is out of range", () -> {
            Bounds.refuses("trim(100) of nothing", Bounds.ARGUMENT, Yards::empty, x -> x.trim(100));
            Bounds.refuses("trim(-1) of nothing", Bounds.ARGUMENT, Yards::empty, x -> x.trim(-1));
        });
    }

    /** One of the heaviest blocks at 0: its middle is at 4 and a half. */
    private static SlipwayYard farAhead() {
        SlipwayYard x = new SlipwayYard();
        x.block(9, 9, 9, 99);
        x.put(0, 0, 0, 0);
        return x;
    }

    private static void putShare() {
        String part = "Promise 46";
        Bounds.none(part, "Returns the share of the blocks that are put");
        Bounds.of(part, "Returns how many are put, converted to float, divided by the number of blocks", () -> {
            Bounds.answers("none of 20", 0.0f, cells(20, 0), SlipwayYard::putShare);
            Bounds.answers("all of 20", 1.0f, cells(20, 20), SlipwayYard::putShare);
            Bounds.answers("1 of 3", 1.0f / 3.0f, cells(3, 1), SlipwayYard::putShare);
            Bounds.answers("19 of 20", 19.0f / 20.0f, cells(20, 19), SlipwayYard::putShare);
        });
        Bounds.of(part, "0.0f without blocks", () -> Bounds.answers("putShare()", 0.0f, Yards::empty, SlipwayYard::putShare));
    }
}
