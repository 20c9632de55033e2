/** Section 6 and promises 35 to 40: slips and cranes. */
final class SlipBounds {
    private static final String PART = "Section 6";

    private SlipBounds() {
    }

    static void all() {
        terms();
        railTerms();
        slip();
        stand();
        firstStand();
        crane();
        lift();
        nextLift();
    }

    /** So many slips of 10 places; the first one has a stand of 4 places from 3 on, from day 100 on for 10 days. */
    private static Bounds.Recipe slips(int slips) {
        return () -> {
            SlipwayYard x = new SlipwayYard();
            for (int slip = 0; slip < slips; slip++) {
                x.slip(10);
            }
            x.stand(0, 3, 4, 100, 10);
            return x;
        };
    }

    /** A slip of 10 places with so many stands, one behind the other, over all its length. */
    private static Bounds.Recipe stands(int stands) {
        return () -> {
            SlipwayYard x = new SlipwayYard();
            x.slip(10);
            for (int stand = 0; stand < stands; stand++) {
                x.stand(0, 0, 10, 20 * stand, 20);
            }
            return x;
        };
    }

    /** So many cranes of strength 50; the first one has so many lifts at place 20, from day 0 on. */
    private static Bounds.Recipe lifts(int cranes, int lifts) {
        return () -> {
            SlipwayYard x = new SlipwayYard();
            for (int crane = 0; crane < cranes; crane++) {
                x.crane(50);
            }
            for (int day = 0; day < lifts; day++) {
                x.lift(0, day, 20, 1);
            }
            return x;
        };
    }

    /** Cranes with a lift each on day 10, at these places. */
    private static Bounds.Recipe rail(int... places) {
        return () -> {
            SlipwayYard x = new SlipwayYard();
            for (int crane = 0; crane < 4; crane++) {
                x.crane(50);
            }
            for (int crane = 0; crane < places.length; crane++) {
                if (places[crane] >= 0) {
                    x.lift(crane, 10, places[crane], 1);
                }
            }
            return x;
        };
    }

    private static void terms() {
        Bounds.of(PART, "There are at most 3 slips, each with a length", () -> {
            Bounds.answers("the third slip", "2 true", slips(2), x -> x.slip(100) + " " + x.stand(2, 0, 100, 0, 1));
            Bounds.refuses("a fourth slip", Bounds.STATE, slips(3), x -> x.slip(1));
        });
        Bounds.of(PART, "from a place on, so long, from a day on, for some days", () -> {
            // the first and the last place and day of the stand are taken, those beside it are not
            int[][] free = {{2, 100}, {7, 100}, {2, 109}, {7, 109}, {3, 99}, {6, 99}, {3, 110}, {6, 110}};
            int[][] taken = {{3, 100}, {6, 100}, {3, 109}, {6, 109}};
            for (int[] at : free) {
                Bounds.answers("beside it, at " + at[0] + " on " + at[1], true, slips(1), x -> x.stand(0, at[0], 1, at[1], 1));
            }
            for (int[] at : taken) {
                Bounds.answers("within it, at " + at[0] + " on " + at[1], false, slips(1), x -> x.stand(0, at[0], 1, at[1], 1));
            }
        });
        Bounds.of(PART, "Two stands of a slip never have a place and a day in common", () -> {
            Bounds.answers("all places, up to the day ahead", true, slips(1), x -> x.stand(0, 0, 10, 0, 100));
            Bounds.answers("all places, up to its first day", false, slips(1), x -> x.stand(0, 0, 10, 1, 100));
            Bounds.answers("all places, from its last day on", false, slips(1), x -> x.stand(0, 0, 10, 109, 1));
            Bounds.answers("all places, from the day behind on", true, slips(1), x -> x.stand(0, 0, 10, 110, 100));
            Bounds.answers("all days, up to the place ahead", true, slips(1), x -> x.stand(0, 0, 3, 60, 100));
            Bounds.answers("all days, up to its first place", false, slips(1), x -> x.stand(0, 0, 4, 60, 100));
            Bounds.answers("all days, from its last place on", false, slips(1), x -> x.stand(0, 6, 4, 60, 100));
            Bounds.answers("all days, from the place behind on", true, slips(1), x -> x.stand(0, 7, 3, 60, 100));
            Bounds.answers("around it", false, slips(1), x -> x.stand(0, 0, 10, 60, 100));
            Bounds.answers("the same on another slip", true, slips(2), x -> x.stand(1, 3, 4, 100, 10));
        });
    }

    private static void railTerms() {
        Bounds.of(PART, "There are at most 4 cranes on one rail, with strengths", () -> {
            Bounds.answers("the fourth crane", "3 true", lifts(3, 0), x -> x.crane(100000) + " " + x.lift(3, 0, 0, 100000));
            Bounds.refuses("a fifth crane", Bounds.STATE, lifts(4, 3), x -> x.crane(1));
        });
        Bounds.of(PART, "their order on the rail is that of their numbers", () -> {
            Bounds.answers("all on one day", "true true true true", lifts(4, 0),
                x -> x.lift(3, 0, 3, 1) + " " + x.lift(0, 0, 0, 1) + " " + x.lift(2, 0, 2, 1) + " " + x.lift(1, 0, 1, 1));
            Bounds.answers("the other way round", "true false", lifts(2, 0), x -> x.lift(0, 0, 1, 1) + " " + x.lift(1, 0, 0, 1));
        });
        Bounds.of(PART, "each on a day at a place (0 to 99) with a weight", () -> {
            Bounds.answers("at place 0", true, lifts(1, 0), x -> x.lift(0, 0, 0, 1));
            Bounds.answers("at place 99", true, lifts(1, 0), x -> x.lift(0, 0, 99, 1));
        });
        Bounds.of(PART, "if the weight is not above the strength", () -> {
            Bounds.answers("just the strength", true, lifts(1, 0), x -> x.lift(0, 0, 0, 50));
            Bounds.answers("1 more", false, lifts(1, 0), x -> x.lift(0, 0, 0, 51));
            Bounds.answers("1 more, and the strength of another crane", "1 false true", lifts(1, 0),
                x -> x.crane(51) + " " + x.lift(0, 0, 0, 51) + " " + x.lift(1, 0, 0, 51));
        });
        Bounds.of(PART, "the crane has no lift on this day", () -> {
            Bounds.answers("the same place", false, lifts(1, 1), x -> x.lift(0, 0, 20, 1));
            Bounds.answers("the day behind", true, lifts(1, 1), x -> x.lift(0, 1, 20, 1));
            Bounds.answers("another crane's day", true, lifts(2, 1), x -> x.lift(1, 0, 21, 1));
            Bounds.answers("a lift that was not told is none", "false true", lifts(1, 0),
                x -> x.lift(0, 0, 20, 51) + " " + x.lift(0, 0, 20, 50));
        });
        Bounds.of(PART, "from and to each other lift of the crane it can go, 5 places a day at most", () -> {
            int[][] reached = {{11, 55}, {11, 45}, {9, 55}, {9, 45}, {20, 99}, {20, 0}, {0, 0}, {19, 95}, {1, 5}};
            int[][] tooFar = {{11, 56}, {11, 44}, {9, 56}, {9, 44}, {19, 96}, {19, 4}, {1, 4}, {1, 96}};
            for (int[] at : reached) {
                Bounds.answers("place " + at[1] + " on day " + at[0], true, rail(50), x -> x.lift(0, at[0], at[1], 1));
            }
            for (int[] at : tooFar) {
                Bounds.answers("place " + at[1] + " on day " + at[0], false, rail(50), x -> x.lift(0, at[0], at[1], 1));
            }
            // near the one ahead, but too far from the one behind
            Bounds.answers("between two", "true false true", rail(50),
                x -> x.lift(0, 12, 50, 1) + " " + x.lift(0, 11, 56, 1) + " " + x.lift(0, 11, 55, 1));
            Bounds.answers("99 places in 20 days", true, rail(0), x -> x.lift(0, 30, 99, 1));
            Bounds.answers("99 places in 19 days", false, rail(0), x -> x.lift(0, 29, 99, 1));
        });
        Bounds.of(PART, "each crane with a lesser number that has a lift is at a lesser place", () -> {
            Bounds.answers("1 more", true, rail(50), x -> x.lift(1, 10, 51, 1));
            Bounds.answers("the same place", false, rail(50), x -> x.lift(1, 10, 50, 1));
            Bounds.answers("1 less", false, rail(50), x -> x.lift(1, 10, 49, 1));
            Bounds.answers("crane 0 and crane 3", false, rail(50), x -> x.lift(3, 10, 50, 1));
            Bounds.answers("the day behind", true, rail(50), x -> x.lift(1, 11, 0, 1));
            Bounds.answers("the day ahead", true, rail(50), x -> x.lift(1, 9, 0, 1));
        });
        Bounds.of(PART, "and each with a greater number at a greater one", () -> {
            Bounds.answers("1 less", true, rail(-1, 50), x -> x.lift(0, 10, 49, 1));
            Bounds.answers("the same place", false, rail(-1, 50), x -> x.lift(0, 10, 50, 1));
            Bounds.answers("1 more", false, rail(-1, 50), x -> x.lift(0, 10, 51, 1));
            Bounds.answers("crane 0 and crane 3", false, rail(-1, -1, -1, 50), x -> x.lift(0, 10, 50, 1));
            Bounds.answers("just between two", true, rail(50, -1, 52), x -> x.lift(1, 10, 51, 1));
            Bounds.answers("no place between two", false, rail(50, -1, 51), x -> x.lift(1, 10, 51, 1));
            Bounds.answers("nor there", false, rail(50, -1, 51), x -> x.lift(1, 10, 50, 1));
        });
    }

    private static void slip() {
        String part = "Promise 35";
        Bounds.none(part, "Makes a slip");
        Bounds.of(part, "`length`: 1 to 100", () -> Bounds.range("length", 1, "0 true", 100, "0 true", Bounds.ARGUMENT,
            Yards::empty, (x, v) -> x.slip(v) + " " + x.stand(0, 0, v, 0, 1)));
        Bounds.of(part, "Returns its number", () -> {
            Bounds.answers("the first slip", 0, Yards::empty, x -> x.slip(1));
            Bounds.answers("the third slip", 2, slips(2), x -> x.slip(1));
        });
        Bounds.of(part, "Throws `IllegalArgumentException` if length is out of range", () -> {
            Bounds.refuses("slip(0) with 3", Bounds.ARGUMENT, slips(3), x -> x.slip(0));
            Bounds.refuses("slip(101) with 3", Bounds.ARGUMENT, slips(3), x -> x.slip(101));
        });
        Bounds.of(part, "Throws `IllegalStateException` if there are 3", () -> Bounds.refuses("slip(100)", Bounds.STATE,
            slips(3), x -> x.slip(100)));
    }

    private static void stand() {
        String part = "Promise 36";
        Bounds.of(part, "Makes a stand, unless it would have a place and a day in common with another one", () -> {
            Bounds.answers("the same stand twice", "true false", slips(2),
                x -> x.stand(1, 0, 10, 400, 100) + " " + x.stand(1, 0, 10, 400, 100));
            Bounds.answers("a stand that was not made takes no room", "false true", slips(1),
                x -> x.stand(0, 0, 10, 100, 1) + " " + x.stand(0, 0, 3, 100, 1));
        });
        Bounds.of(part, "`slip`: number of a slip", () -> Bounds.range("slip", 0, true, 2, true, Bounds.INDEX, slips(3),
            (x, v) -> x.stand(v, 0, 1, 0, 1)));
        Bounds.of(part, "`place`: 0 up to the length of the slip less 1", () -> {
            Bounds.range("place", 0, true, 9, true, Bounds.ARGUMENT, slips(1), (x, v) -> x.stand(0, v, 1, 0, 1));
            Bounds.range("place of a slip of 1", 0, true, 0, true, Bounds.ARGUMENT, () -> slipOf(1),
                (x, v) -> x.stand(0, v, 1, 0, 1));
            Bounds.range("place of a slip of 100", 0, true, 99, true, Bounds.ARGUMENT, () -> slipOf(100),
                (x, v) -> x.stand(0, v, 1, 0, 1));
        });
        Bounds.of(part, "`length`: 1 up to what is left of the slip", () -> {
            Bounds.range("length from 0 on", 1, true, 10, true, Bounds.ARGUMENT, slips(1), (x, v) -> x.stand(0, 0, v, 0, 1));
            Bounds.range("length from 4 on", 1, true, 6, true, Bounds.ARGUMENT, slips(1), (x, v) -> x.stand(0, 4, v, 0, 1));
            Bounds.range("length from 9 on", 1, true, 1, true, Bounds.ARGUMENT, slips(1), (x, v) -> x.stand(0, 9, v, 0, 1));
            Bounds.range("length of a slip of 100", 1, true, 100, true, Bounds.ARGUMENT, () -> slipOf(100),
                (x, v) -> x.stand(0, 0, v, 0, 1));
        });
        Bounds.of(part, "`day`: 0 to 400", () -> {
            Bounds.range("day", 0, true, 400, true, Bounds.ARGUMENT, slips(1), (x, v) -> x.stand(0, 0, 10, v, 1));
            Bounds.range("day for 100 days", 0, true, 400, true, Bounds.ARGUMENT, slips(1), (x, v) -> x.stand(0, 0, 10, v, 100));
        });
        Bounds.of(part, "`days`: 1 to 100", () -> Bounds.range("days", 1, "true 1", 100, "true 110", Bounds.ARGUMENT,
            slips(1), (x, v) -> x.stand(0, 0, 10, 0, v) + " " + x.firstStand(0, 10, 1, false)));
        Bounds.of(part, "Returns whether it was done", () -> {
            Bounds.answers("the 20th stand", true, stands(19), x -> x.stand(0, 0, 10, 380, 20));
            Bounds.answers("on the last day of the 19th", false, stands(19), x -> x.stand(0, 0, 10, 379, 20));
            Bounds.answers("the 20th, behind one that was not made", "false true", stands(19),
                x -> x.stand(0, 0, 1, 0, 1) + " " + x.stand(0, 0, 10, 380, 100));
        });
        Bounds.of(part, "Throws `IndexOutOfBoundsException` if there is no such slip", () -> {
            Bounds.refuses("stand(0, ..) without slips", Bounds.INDEX, Yards::empty, x -> x.stand(0, 0, 1, 0, 1));
            Bounds.refuses("stand(1, -1, 0, -1, 0) of 1", Bounds.INDEX, stands(20), x -> x.stand(1, -1, 0, -1, 0));
        });
        Bounds.of(part, "Throws `IllegalArgumentException` if a parameter is out of range", () -> {
            Bounds.refuses("with 20 stands", Bounds.ARGUMENT, stands(20), x -> x.stand(0, 0, 11, 400, 1));
            Bounds.refuses("on another stand", Bounds.ARGUMENT, stands(2), x -> x.stand(0, 0, 1, 0, 101));
            Bounds.refuses("place and length so great that they wrap around", Bounds.ARGUMENT, stands(2),
                x -> x.stand(0, Integer.MAX_VALUE, Integer.MAX_VALUE, 60, 1));
            Bounds.refuses("a length that wraps around", Bounds.ARGUMENT, stands(2),
                x -> x.stand(0, 9, Integer.MIN_VALUE, 60, 1));
        });
        Bounds.of(part, "Throws `IllegalStateException` if the slip has 20 stands", () -> {
            Bounds.refuses("where there is room", Bounds.STATE, stands(20), x -> x.stand(0, 0, 1, 400, 1));
            Bounds.refuses("where there is none", Bounds.STATE, stands(20), x -> x.stand(0, 0, 1, 0, 1));
            Bounds.answers("another slip has room for 20 more", "1 true", stands(20),
                x -> x.slip(10) + " " + x.stand(1, 0, 10, 0, 20));
        });
    }

    private static SlipwayYard slipOf(int length) {
        SlipwayYard x = new SlipwayYard();
        x.slip(length);
        return x;
    }

    private static String first(SlipwayYard x, int slip, int length, int days) {
        return x.firstStand(slip, length, days, false) + " " + x.firstStand(slip, length, days, true);
    }

    private static void firstStand() {
        String part = "Promise 37";
        Bounds.of(part, "Finds the first day from which on a stand could be made", () -> {
            Bounds.answers("without stands", "0 0", slips(2), x -> first(x, 1, 10, 100));
            Bounds.answers("the days ahead are just enough", "0 0", slips(1), x -> first(x, 0, 10, 100));
            Bounds.answers("a day too few", "110 0", SlipBounds::dayTooFew, x -> first(x, 0, 10, 100));
            Bounds.answers("a day less is enough", "1 0", SlipBounds::dayTooFew, x -> first(x, 0, 10, 99));
            Bounds.answers("behind 20 stands", "400 0", stands(20), x -> first(x, 0, 10, 100));
            Bounds.answers("behind the last day of all", "500 0", SlipBounds::lastDay, x -> first(x, 0, 1, 1));
        });
        Bounds.of(part, "and the least place for it then", () -> {
            Bounds.answers("the places ahead are just enough", "0 0", SlipBounds::corner, x -> first(x, 0, 3, 1));
            Bounds.answers("the places behind are just enough", "0 6", SlipBounds::corner, x -> first(x, 0, 4, 1));
            Bounds.answers("a place too few on each side", "10 0", SlipBounds::corner, x -> first(x, 0, 5, 1));
            Bounds.answers("the last place", "0 9", SlipBounds::nineTaken, x -> first(x, 0, 1, 1));
        });
        Bounds.of(part, "`slip`: number of a slip", () -> Bounds.range("slip", 0, 0, 2, 0, Bounds.INDEX, slips(3),
            (x, v) -> x.firstStand(v, 10, 1, true)));
        Bounds.of(part, "`length`: 1 up to the length of the slip", () -> {
            Bounds.range("length", 1, 0, 10, 0, Bounds.ARGUMENT, slips(1), (x, v) -> x.firstStand(0, v, 1, false));
            Bounds.range("length of a slip of 1", 1, 0, 1, 0, Bounds.ARGUMENT, () -> slipOf(1),
                (x, v) -> x.firstStand(0, v, 1, true));
            Bounds.range("length of a slip of 100", 1, 0, 100, 0, Bounds.ARGUMENT, () -> slipOf(100),
                (x, v) -> x.firstStand(0, v, 1, true));
        });
        Bounds.of(part, "`days`: 1 to 100", () -> Bounds.range("days", 1, 0, 100, 100, Bounds.ARGUMENT, SlipBounds::dayTaken,
            (x, v) -> x.firstStand(0, 10, v, false)));
        Bounds.of(part, "`isPlace`: true for the place, false for the day", () -> {
            Bounds.answers("the first day and the 7th place", "0 7", SlipBounds::crowded, x -> first(x, 0, 3, 1));
            Bounds.answers("a day far off and the first place", "110 0", SlipBounds::crowded, x -> first(x, 0, 4, 1));
        });
        Bounds.none(part, "Returns this");
        Bounds.of(part, "Throws `IndexOutOfBoundsException` if there is no such slip", () -> {
            Bounds.refuses("firstStand without slips", Bounds.INDEX, Yards::empty, x -> x.firstStand(0, 0, 0, true));
            Bounds.refuses("firstStand(3, ..) of 3", Bounds.INDEX, slips(3), x -> x.firstStand(3, 11, 101, false));
        });
        Bounds.of(part, "Throws `IllegalArgumentException` if a parameter is out of range", () -> {
            Bounds.refuses("firstStand(0, 11, 1, true)", Bounds.ARGUMENT, stands(20), x -> x.firstStand(0, 11, 1, true));
            Bounds.refuses("firstStand(0, 10, 0, false)", Bounds.ARGUMENT, stands(20), x -> x.firstStand(0, 10, 0, false));
        });
    }

    private static SlipwayYard dayTooFew() {
        SlipwayYard x = slips(1).make();
        x.stand(0, 0, 1, 0, 1);
        return x;
    }

    /** A slip of 1 place that is taken up to day 499. */
    private static SlipwayYard lastDay() {
        SlipwayYard x = slipOf(1);
        for (int day = 0; day <= 400; day += 100) {
            x.stand(0, 0, 1, day, 100);
        }
        return x;
    }

    /** The places 3 to 5 are taken for 10 days. */
    private static SlipwayYard corner() {
        SlipwayYard x = slipOf(10);
        x.stand(0, 3, 3, 0, 10);
        return x;
    }

    private static SlipwayYard nineTaken() {
        SlipwayYard x = slipOf(10);
        x.stand(0, 0, 9, 0, 100);
        return x;
    }

    /** The places 0 to 6 are taken for 100 days, and then the places 3 to 6 for 10 days. */
    private static SlipwayYard crowded() {
        SlipwayYard x = slips(1).make();
        x.stand(0, 0, 7, 0, 100);
        return x;
    }

    /** All places are taken on day 99. */
    private static SlipwayYard dayTaken() {
        SlipwayYard x = slipOf(10);
        x.stand(0, 0, 10, 99, 1);
        return x;
    }

    private static void crane() {
        String part = "Promise 38";
        Bounds.none(part, "Makes a crane");
        Bounds.of(part, "`strength`: 1 to 100000", () -> Bounds.range("strength", 1, "0 true", 100000, "0 true",
            Bounds.ARGUMENT, Yards::empty, (x, v) -> x.crane(v) + " " + x.lift(0, 0, 0, v)));
        Bounds.of(part, "Returns its number", () -> {
            Bounds.answers("the first crane", 0, Yards::empty, x -> x.crane(1));
            Bounds.answers("the fourth crane", 3, lifts(3, 0), x -> x.crane(1));
        });
        Bounds.of(part, "Throws `IllegalArgumentException` if strength is out of range", () -> {
            Bounds.refuses("crane(0) with 4", Bounds.ARGUMENT, lifts(4, 3), x -> x.crane(0));
            Bounds.refuses("crane(100001) with 4", Bounds.ARGUMENT, lifts(4, 3), x -> x.crane(100001));
        });
        Bounds.of(part, "Throws `IllegalStateException` if there are 4", () -> Bounds.refuses("crane(100000)", Bounds.STATE,
            lifts(4, 3), x -> x.crane(100000)));
    }

    private static void lift() {
        String part = "Promise 39";
        Bounds.of(part, "Tells a lift, if it can be told", () -> Bounds.answers("a lift is there then", "1 true 2", lifts(1, 1),
            x -> x.nextLift(0, 0, 20, 1) + " " + x.lift(0, 1, 20, 1) + " " + x.nextLift(0, 0, 20, 1)));
        Bounds.of(part, "`crane`: number of a crane", () -> Bounds.range("crane", 0, true, 3, true, Bounds.INDEX, lifts(4, 2),
            (x, v) -> x.lift(v, 400, 50, 1)));
        Bounds.of(part, "`day`: 0 to 400", () -> Bounds.range("day", 0, "true 1", 400, "true 401", Bounds.ARGUMENT,
            lifts(2, 2), (x, v) -> x.lift(1, v, 50, 1) + " " + x.nextLift(1, v, 50, 1)));
        Bounds.of(part, "`place`: 0 to 99", () -> Bounds.range("place", 0, "true 20", 99, "true 20", Bounds.ARGUMENT,
            lifts(1, 0), (x, v) -> x.lift(0, 0, v, 1) + " " + x.nextLift(0, 0, 99 - v, 1)));
        Bounds.of(part, "`weight`: 1 to 100000", () -> {
            Bounds.range("weight", 1, true, 100000, false, Bounds.ARGUMENT, lifts(1, 2), (x, v) -> x.lift(0, 400, 0, v));
            Bounds.range("weight of the strongest", 1, true, 100000, true, Bounds.ARGUMENT, SlipBounds::strongest,
                (x, v) -> x.lift(0, 400, 0, v));
        });
        Bounds.of(part, "Returns whether it was told", () -> {
            Bounds.answers("the 30th lift", true, lifts(1, 29), x -> x.lift(0, 29, 25, 50));
            Bounds.answers("the 30th lift behind one that was not told", "false true", lifts(1, 29),
                x -> x.lift(0, 28, 20, 1) + " " + x.lift(0, 29, 20, 1));
            Bounds.answers("the 30th lift, told ahead of the others", true, SlipBounds::lateLifts, x -> x.lift(0, 0, 20, 1));
        });
        Bounds.of(part, "Throws `IndexOutOfBoundsException` if there is no such crane", () -> {
            Bounds.refuses("lift(0, ..) without cranes", Bounds.INDEX, Yards::empty, x -> x.lift(0, 0, 0, 1));
            Bounds.refuses("lift(4, 401, 100, 0) of 4", Bounds.INDEX, lifts(4, 30), x -> x.lift(4, 401, 100, 0));
        });
        Bounds.of(part, "Throws `IllegalArgumentException` if a parameter is out of range", () -> {
            Bounds.refuses("day 401 with 30 lifts", Bounds.ARGUMENT, lifts(1, 30), x -> x.lift(0, 401, 20, 1));
            Bounds.refuses("weight 0 on a day with a lift", Bounds.ARGUMENT, lifts(1, 3), x -> x.lift(0, 0, 20, 0));
            Bounds.refuses("weight 100001, above the strength", Bounds.ARGUMENT, lifts(1, 3), x -> x.lift(0, 9, 20, 100001));
            Bounds.refuses("place 100", Bounds.ARGUMENT, lifts(1, 3), x -> x.lift(0, 400, 100, 1));
        });
        Bounds.of(part, "Throws `IllegalStateException` if the crane has 30 lifts", () -> {
            Bounds.refuses("one that could be told", Bounds.STATE, lifts(4, 30), x -> x.lift(0, 30, 20, 1));
            Bounds.refuses("one above the strength", Bounds.STATE, lifts(4, 30), x -> x.lift(0, 30, 20, 51));
            Bounds.refuses("one on a day with a lift", Bounds.STATE, lifts(4, 30), x -> x.lift(0, 0, 20, 1));
            Bounds.answers("another crane has none yet", true, lifts(4, 30), x -> x.lift(1, 0, 21, 1));
        });
    }

    private static SlipwayYard strongest() {
        SlipwayYard x = new SlipwayYard();
        x.crane(100000);
        return x;
    }

    /** A crane with 29 lifts from day 1 on. */
    private static SlipwayYard lateLifts() {
        SlipwayYard x = lifts(1, 0).make();
        for (int day = 29; day >= 1; day--) {
            x.lift(0, day, 20, 1);
        }
        return x;
    }

    private static void nextLift() {
        String part = "Promise 40";
        Bounds.of(part, "Finds the first day from a day on", () -> {
            Bounds.answers("the day itself", 0, lifts(1, 0), x -> x.nextLift(0, 0, 99, 1));
            Bounds.answers("the day itself, 400", 400, lifts(1, 0), x -> x.nextLift(0, 400, 99, 1));
            Bounds.answers("the day ahead of a lift", 9, rail(50), x -> x.nextLift(0, 9, 45, 1));
            Bounds.answers("the day behind a lift", 11, rail(50), x -> x.nextLift(0, 10, 45, 1));
            Bounds.answers("two days behind it", 12, rail(50), x -> x.nextLift(0, 9, 44, 1));
            Bounds.answers("no day below 0", 30, rail(0), x -> x.nextLift(0, 0, 99, 1));
            Bounds.answers("day 0, which is just far enough", 0, rail(50), x -> x.nextLift(0, 0, 99, 1));
            Bounds.answers("the same place as another crane", 11, rail(50), x -> x.nextLift(1, 10, 50, 1));
        });
        Bounds.of(part, "up to 500", () -> {
            // no way is longer than 20 days, and no lift behind day 400: 420 is the last day that can be due
            Bounds.answers("the farthest day", 420, SlipBounds::lastLift, x -> x.nextLift(0, 381, 99, 1));
            Bounds.answers("the farthest day from 400 on", 420, SlipBounds::lastLift, x -> x.nextLift(0, 400, 99, 1));
            Bounds.answers("just ahead of the way", 380, SlipBounds::lastLift, x -> x.nextLift(0, 380, 99, 1));
        });
        Bounds.of(part, "(if it had not 30 yet; days above 400 count, too)", () -> {
            Bounds.answers("with 30 lifts", 30, lifts(1, 30), x -> x.nextLift(0, 0, 20, 1));
            Bounds.answers("with 30 lifts, far", 45, lifts(1, 30), x -> x.nextLift(0, 0, 99, 1));
            Bounds.answers("day 401", 401, SlipBounds::lastLift, x -> x.nextLift(0, 400, 5, 1));
            Bounds.answers("day 402", 402, SlipBounds::lastLift, x -> x.nextLift(0, 400, 6, 1));
        });
        Bounds.of(part, "`crane`: number of a crane", () -> Bounds.range("crane", 0, 2, 3, 0, Bounds.INDEX, lifts(4, 2),
            (x, v) -> x.nextLift(v, 0, 21, 1)));
        Bounds.of(part, "`from`: 0 to 400", () -> Bounds.range("from", 0, 1, 400, 400, Bounds.ARGUMENT, lifts(1, 1),
            (x, v) -> x.nextLift(0, v, 20, 1)));
        Bounds.of(part, "`place`: 0 to 99", () -> Bounds.range("place", 0, 5, 99, 17, Bounds.ARGUMENT, lifts(1, 2),
            (x, v) -> x.nextLift(0, 0, v, 1)));
        Bounds.of(part, "`weight`: 1 to 100000", () -> {
            Bounds.range("weight", 1, 2, 100000, -1, Bounds.ARGUMENT, lifts(1, 2), (x, v) -> x.nextLift(0, 0, 20, v));
            Bounds.range("weight of the strongest", 1, 0, 100000, 0, Bounds.ARGUMENT, SlipBounds::strongest,
                (x, v) -> x.nextLift(0, 0, 20, v));
        });
        Bounds.of(part, "Returns the day; NONE if there is none", () -> {
            Bounds.answers("just the strength", 0, lifts(1, 0), x -> x.nextLift(0, 0, 0, 50));
            Bounds.answers("1 more", SlipwayYard.NONE, lifts(1, 0), x -> x.nextLift(0, 0, 0, 51));
            Bounds.answers("1 more from 400 on", SlipwayYard.NONE, lifts(4, 30), x -> x.nextLift(3, 400, 99, 51));
        });
        Bounds.of(part, "Throws `IndexOutOfBoundsException` if there is no such crane", () -> {
            Bounds.refuses("nextLift(0, ..) without cranes", Bounds.INDEX, Yards::empty, x -> x.nextLift(0, 0, 0, 1));
            Bounds.refuses("nextLift(4, 401, 100, 0) of 4", Bounds.INDEX, lifts(4, 30), x -> x.nextLift(4, 401, 100, 0));
        });
        Bounds.of(part, "Throws `IllegalArgumentException` if a parameter is out of range", () -> {
            // days above 400 count, but none can be asked from
            Bounds.refuses("from 401 on", Bounds.ARGUMENT, lifts(1, 30), x -> x.nextLift(0, 401, 0, 1));
            Bounds.refuses("from 500 on", Bounds.ARGUMENT, lifts(1, 30), x -> x.nextLift(0, 500, 0, 1));
            Bounds.refuses("weight 100001, above the strength", Bounds.ARGUMENT, lifts(1, 3), x -> x.nextLift(0, 0, 0, 100001));
        });
    }

    /** A lift on the last day at the first place. */
    private static SlipwayYard lastLift() {
        SlipwayYard x = strongest();
        x.lift(0, 400, 0, 1);
        return x;
    }
}
