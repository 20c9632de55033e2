/** Promises 29 to 34 and 46: blocks, where they are put, weight, middle and trim. */
public final class BlocksTest {
    public static void main(String[] args) {
        blocks();
        putting();
        puttingWrong();
        touching();
        takingAway();
        middles();
        trims();
        heaviest();
        shares();
        Due.end();
    }

    private static void blocks() {
        SlipwayYard x = new SlipwayYard();
        int[][] wrong = {{0, 1, 1, 1}, {10, 1, 1, 1}, {1, 0, 1, 1}, {1, 10, 1, 1}, {1, 1, 0, 1}, {1, 1, 10, 1},
            {1, 1, 1, 0}, {1, 1, 1, 100}, {-1, -1, 1, 1}, {Integer.MIN_VALUE, 1, 1, 1}};
        for (int[] w : wrong) {
            Due.argument("block out of range", () -> x.block(w[0], w[1], w[2], w[3]));
        }
        Due.is("block(9, 9, 9, 99)", 0, () -> x.block(9, 9, 9, 99));
        for (int k = 1; k < 20; k++) {
            Due.is("block(1, 1, 1, 1)", k, () -> x.block(1, 1, 1, 1));
        }
        Due.state("a 21st block", () -> x.block(1, 1, 1, 1));
        Due.argument("a 21st block out of range", () -> x.block(1, 1, 10, 1));
        Due.is("none is put", 0L, x::weight);
        Due.index("put(20, 0, 0, 0)", () -> x.put(20, 0, 0, 0));
        Due.is("put(19, 0, 0, 0)", true, () -> x.put(19, 0, 0, 0));
    }

    private static void putting() {
        SlipwayYard x = new SlipwayYard();
        x.block(3, 2, 1, 5);
        x.block(1, 1, 1, 7);
        Due.is("put(0, 10, 10, 10)", true, () -> x.put(0, 10, 10, 10));
        Due.is("weight()", 30L, x::weight);
        Due.is("put(1) into its last cell", false, () -> x.put(1, 12, 11, 10));
        Due.is("it is not put", 30L, x::weight);
        Due.is("takeAway(1)", false, () -> x.takeAway(1));
        Due.is("put(1) beside it", true, () -> x.put(1, 13, 11, 10));
        Due.is("weight()", 37L, x::weight);
        // a block is not in its own way, and stays where it was if it cannot go
        Due.is("put(0) by one place", true, () -> x.put(0, 9, 10, 10));
        Due.is("put(0) into the other one", false, () -> x.put(0, 11, 10, 10));
        middle(x, 0, 819, 74);
        Due.is("put(1) where 0 was", true, () -> x.put(1, 12, 11, 10));
        Due.is("put(1) where it is", true, () -> x.put(1, 12, 11, 10));
        Due.is("put(1, 99, 99, 99)", true, () -> x.put(1, 99, 99, 99));
        Due.is("put(0, 99, 99, 99)", false, () -> x.put(0, 99, 99, 99));
        Due.is("put(0, 97, 98, 99)", false, () -> x.put(0, 97, 98, 99));
        Due.is("put(0, 96, 98, 99)", true, () -> x.put(0, 96, 98, 99));
    }

    private static void puttingWrong() {
        SlipwayYard x = new SlipwayYard();
        Due.index("put without blocks", () -> x.put(0, 0, 0, 0));
        x.block(2, 2, 2, 1);
        x.put(0, 5, 5, 5);
        Due.index("put(1, 0, 0, 0)", () -> x.put(1, 0, 0, 0));
        Due.index("put(-1, -1, 0, 0)", () -> x.put(-1, -1, 0, 0));
        Due.argument("put(0, -1, 0, 0)", () -> x.put(0, -1, 0, 0));
        Due.argument("put(0, 100, 0, 0)", () -> x.put(0, 100, 0, 0));
        Due.argument("put(0, 0, -1, 0)", () -> x.put(0, 0, -1, 0));
        Due.argument("put(0, 0, 100, 0)", () -> x.put(0, 0, 100, 0));
        Due.argument("put(0, 0, 0, -1)", () -> x.put(0, 0, 0, -1));
        Due.argument("put(0, 0, 0, 100)", () -> x.put(0, 0, 0, 100));
        Due.is("it stays", 6L, () -> x.middle(2, false));
        Due.index("takeAway(1)", () -> x.takeAway(1));
        Due.index("takeAway(-1)", () -> x.takeAway(-1));
        Due.argument("middle(-1, true)", () -> x.middle(-1, true));
        Due.argument("middle(3, true)", () -> x.middle(3, true));
        Due.argument("trim(-1)", () -> x.trim(-1));
        Due.argument("trim(100)", () -> x.trim(100));
        SlipwayYard y = new SlipwayYard();
        Due.argument("middle(3, true) of nothing", () -> y.middle(3, true));
        Due.is("middle(0, true) of nothing", "throws.NoSuchElementException", () -> y.middle(0, true));
        Due.argument("trim(100) of nothing", () -> y.trim(100));
        Due.is("trim(5) of nothing", 0L, () -> y.trim(5));
    }

    private static void touching() {
        // around a block of 3, 4 and 5 in the middle: one step nearer in any direction meets it
        SlipwayYard x = new SlipwayYard();
        x.block(3, 4, 5, 1);
        x.block(2, 2, 2, 1);
        x.put(0, 10, 10, 10);
        int[][] beside = {{8, 11, 11}, {13, 11, 11}, {11, 8, 11}, {11, 14, 11}, {11, 11, 8}, {11, 11, 15}};
        int[][] inside = {{9, 11, 11}, {12, 11, 11}, {11, 9, 11}, {11, 13, 11}, {11, 11, 9}, {11, 11, 14}, {11, 11, 11}};
        for (int[] at : beside) {
            Due.is("put beside", true, () -> x.put(1, at[0], at[1], at[2]));
        }
        for (int[] at : inside) {
            Due.is("put into", false, () -> x.put(1, at[0], at[1], at[2]));
        }
        x.takeAway(1);
        for (int[] at : inside) {
            Due.is("put into", false, () -> x.put(1, at[0], at[1], at[2]));
        }
        x.takeAway(0);
        for (int[] at : inside) {
            Due.is("put alone", true, () -> x.put(1, at[0], at[1], at[2]));
        }
    }

    private static void takingAway() {
        SlipwayYard x = new SlipwayYard();
        x.block(1, 1, 1, 4);
        x.block(1, 1, 1, 4);
        Due.is("takeAway(0), never put", false, () -> x.takeAway(0));
        x.put(0, 1, 1, 1);
        Due.is("takeAway(1)", false, () -> x.takeAway(1));
        Due.is("takeAway(0)", true, () -> x.takeAway(0));
        Due.is("takeAway(0) again", false, () -> x.takeAway(0));
        Due.is("weight()", 0L, x::weight);
        Due.is("its place is free", true, () -> x.put(1, 1, 1, 1));
        Due.is("and not any more", false, () -> x.put(0, 1, 1, 1));
        x.takeAway(1);
        Due.is("middle(1, false)", "throws.NoSuchElementException", () -> x.middle(1, false));
    }

    private static void middle(SlipwayYard x, int direction, long above, long below) {
        Due.is("middle(" + direction + ", false)", above, () -> x.middle(direction, false));
        Due.is("middle(" + direction + ", true)", below, () -> x.middle(direction, true));
    }

    private static void middles() {
        SlipwayYard x = new SlipwayYard();
        x.block(2, 3, 5, 1);
        x.put(0, 0, 0, 0);
        middle(x, 0, 1, 1);
        middle(x, 1, 3, 2);
        middle(x, 2, 5, 2);
        x.put(0, 7, 20, 99);
        middle(x, 0, 8, 1);
        middle(x, 1, 43, 2);
        middle(x, 2, 203, 2);
        // 30 at 8, 7 at 3 and a half: 264.5 of 37
        x.block(1, 1, 1, 7);
        x.put(1, 3, 0, 0);
        middle(x, 0, 529, 74);
        // 30 times 21 and a half, 7 times a half: 648.5 of 37
        middle(x, 1, 1297, 74);
    }

    private static void trims() {
        SlipwayYard x = new SlipwayYard();
        x.block(3, 1, 1, 2);
        x.put(0, 4, 9, 9);
        // weight 6, middle 5.5
        Due.is("trim(0)", 66L, () -> x.trim(0));
        Due.is("trim(5)", 6L, () -> x.trim(5));
        Due.is("trim(6)", -6L, () -> x.trim(6));
        Due.is("trim(99)", 66L - 2 * 6 * 99, () -> x.trim(99));
        x.block(1, 1, 1, 3);
        x.put(1, 50, 0, 0);
        Due.is("trim(5) of two", 6L + 273, () -> x.trim(5));
        x.takeAway(0);
        x.takeAway(1);
        Due.is("trim(99) of nothing", 0L, () -> x.trim(99));
    }

    private static void heaviest() {
        SlipwayYard x = new SlipwayYard();
        for (int k = 0; k < 20; k++) {
            x.block(9, 9, 9, 99);
            x.put(k, 99, 9 * (k % 10), 9 * (k / 10));
        }
        Due.is("weight()", 20L * 729 * 99, x::weight);
        middle(x, 0, 207, 2);
        middle(x, 1, 45, 1);
        middle(x, 2, 9, 1);
        Due.is("trim(0)", 20L * 729 * 99 * 207, () -> x.trim(0));
    }

    private static void shares() {
        SlipwayYard x = new SlipwayYard();
        Due.is("putShare() without blocks", 0.0f, x::putShare);
        x.block(1, 1, 1, 1);
        Due.is("putShare() of none", 0.0f, x::putShare);
        x.put(0, 0, 0, 0);
        Due.is("putShare() of all", 1.0f, x::putShare);
        x.block(1, 1, 1, 1);
        x.block(1, 1, 1, 1);
        Due.is("putShare()", 1.0f / 3.0f, x::putShare);
        x.put(2, 5, 0, 0);
        Due.is("putShare()", 2.0f / 3.0f, x::putShare);
    }
}
