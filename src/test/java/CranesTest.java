/** Promises 38 to 40: cranes, lifts, and the next day of a lift. */
public final class CranesTest {
    public static void main(String[] args) {
        cranes();
        strengths();
        ways();
        orderOnTheRail();
        liftingWrong();
        thirtyLifts();
        nextDays();
        nextBetweenOthers();
        nextWrong();
        nextFar();
        Due.end();
    }

    private static SlipwayYard yard(int... strengths) {
        SlipwayYard x = new SlipwayYard();
        for (int strength : strengths) {
            x.crane(strength);
        }
        return x;
    }

    private static void lift(SlipwayYard x, boolean due, int crane, int day, int place) {
        Due.is("lift(" + crane + ", " + day + ", " + place + ", 1)", due, () -> x.lift(crane, day, place, 1));
    }

    private static void next(SlipwayYard x, int due, int crane, int from, int place) {
        Due.is("nextLift(" + crane + ", " + from + ", " + place + ", 1)", due, () -> x.nextLift(crane, from, place, 1));
    }

    private static void cranes() {
        SlipwayYard x = new SlipwayYard();
        Due.argument("crane(0)", () -> x.crane(0));
        Due.argument("crane(100001)", () -> x.crane(100001));
        Due.is("crane(1)", 0, () -> x.crane(1));
        Due.is("crane(100000)", 1, () -> x.crane(100000));
        Due.is("crane(5)", 2, () -> x.crane(5));
        Due.is("crane(5)", 3, () -> x.crane(5));
        Due.state("a 5th crane", () -> x.crane(5));
        Due.argument("a 5th crane out of range", () -> x.crane(0));
        lift(x, true, 3, 0, 3);
        Due.index("lift(4, ..)", () -> x.lift(4, 0, 9, 1));
    }

    private static void strengths() {
        SlipwayYard x = yard(50, 100000);
        Due.is("lift above the strength", false, () -> x.lift(0, 0, 0, 51));
        Due.is("lift of the strength", true, () -> x.lift(0, 0, 0, 50));
        Due.is("lift by the strong one", true, () -> x.lift(1, 0, 1, 100000));
        Due.is("nextLift above the strength", -1, () -> x.nextLift(0, 0, 0, 51));
        Due.is("nextLift of the strength", 1, () -> x.nextLift(0, 0, 0, 50));
    }

    private static void ways() {
        SlipwayYard x = yard(9);
        lift(x, true, 0, 10, 50);
        lift(x, false, 0, 10, 50);
        lift(x, false, 0, 10, 51);
        lift(x, false, 0, 11, 56);
        lift(x, false, 0, 9, 44);
        lift(x, true, 0, 9, 45);
        lift(x, true, 0, 11, 55);
        lift(x, false, 0, 0, 96);
        lift(x, false, 0, 0, 91);
        lift(x, true, 0, 0, 90);
        // from a lift and to one: both must be in reach
        lift(x, false, 0, 20, 5);
        lift(x, true, 0, 21, 5);
        lift(x, false, 0, 15, 50);
        lift(x, false, 0, 15, 34);
        lift(x, false, 0, 15, 36);
        lift(x, true, 0, 15, 35);
        lift(x, false, 0, 12, 49);
        lift(x, false, 0, 12, 51);
        lift(x, true, 0, 12, 50);
        Due.is("errors()", 0, x::errors);
    }

    private static void orderOnTheRail() {
        SlipwayYard x = yard(9, 9, 9, 9);
        lift(x, true, 1, 0, 50);
        lift(x, false, 0, 0, 50);
        lift(x, false, 0, 0, 51);
        lift(x, true, 0, 0, 49);
        lift(x, false, 2, 0, 50);
        lift(x, true, 3, 0, 52);
        lift(x, false, 2, 0, 52);
        lift(x, false, 2, 0, 53);
        lift(x, true, 2, 0, 51);
        // another day is not in the way
        SlipwayYard y = yard(9, 9);
        lift(y, true, 0, 3, 60);
        lift(y, true, 1, 4, 40);
        lift(y, false, 1, 3, 45);
        lift(y, false, 0, 4, 55);
        lift(y, true, 0, 400, 99);
        lift(y, false, 1, 400, 99);
    }

    private static void liftingWrong() {
        SlipwayYard x = new SlipwayYard();
        Due.index("lift without cranes", () -> x.lift(0, 0, 0, 1));
        x.crane(5);
        Due.index("lift(1, -1, 0, 1)", () -> x.lift(1, -1, 0, 1));
        Due.index("lift(-1, 0, 0, 1)", () -> x.lift(-1, 0, 0, 1));
        Due.argument("lift(0, -1, 0, 1)", () -> x.lift(0, -1, 0, 1));
        Due.argument("lift(0, 401, 0, 1)", () -> x.lift(0, 401, 0, 1));
        Due.argument("lift(0, 0, -1, 1)", () -> x.lift(0, 0, -1, 1));
        Due.argument("lift(0, 0, 100, 1)", () -> x.lift(0, 0, 100, 1));
        Due.argument("lift(0, 0, 0, 0)", () -> x.lift(0, 0, 0, 0));
        Due.argument("lift(0, 0, 0, 100001)", () -> x.lift(0, 0, 0, 100001));
        Due.is("no lift came of it", 0, () -> x.nextLift(0, 0, 0, 1));
        Due.is("lift(0, 0, 0, 100000)", false, () -> x.lift(0, 0, 0, 100000));
        lift(x, true, 0, 400, 99);
        lift(x, true, 0, 0, 0);
    }

    private static void thirtyLifts() {
        SlipwayYard x = yard(9, 9);
        for (int day = 0; day < 30; day++) {
            lift(x, true, 0, day, 20);
            if (day < 29) {
                lift(x, false, 0, 0, 20);
            }
        }
        Due.state("a 31st lift", () -> x.lift(0, 30, 20, 1));
        Due.state("a 31st lift that cannot be told", () -> x.lift(0, 0, 20, 1));
        Due.state("a 31st lift above the strength", () -> x.lift(0, 30, 20, 10));
        Due.argument("a 31st lift out of range", () -> x.lift(0, 401, 20, 1));
        Due.index("a 31st lift of no crane", () -> x.lift(2, 401, 20, 1));
        next(x, 30, 0, 0, 20);
        next(x, 33, 0, 0, 40);
        lift(x, true, 1, 29, 21);
        lift(x, false, 1, 28, 20);
    }

    private static void nextDays() {
        SlipwayYard x = yard(9);
        next(x, 0, 0, 0, 99);
        next(x, 400, 0, 400, 99);
        lift(x, true, 0, 10, 50);
        next(x, 0, 0, 0, 50);
        next(x, 11, 0, 10, 50);
        next(x, 0, 0, 0, 99);
        next(x, 20, 0, 1, 99);
        next(x, 12, 0, 9, 58);
        next(x, 8, 0, 8, 58);
        lift(x, true, 0, 12, 50);
        next(x, 9, 0, 9, 54);
        next(x, 11, 0, 10, 54);
        next(x, 14, 0, 9, 56);
        next(x, 11, 0, 11, 45);
        next(x, 14, 0, 11, 44);
    }

    private static void nextBetweenOthers() {
        SlipwayYard x = yard(9, 9, 9);
        lift(x, true, 0, 0, 30);
        lift(x, true, 0, 1, 34);
        lift(x, true, 2, 2, 32);
        next(x, 2, 1, 0, 30);
        next(x, 0, 1, 0, 31);
        next(x, 1, 1, 1, 35);
        next(x, 3, 1, 2, 35);
        next(x, 3, 1, 2, 32);
        next(x, 2, 1, 2, 31);
    }

    private static void nextWrong() {
        SlipwayYard x = new SlipwayYard();
        Due.index("nextLift without cranes", () -> x.nextLift(0, 0, 0, 1));
        x.crane(5);
        Due.index("nextLift(1, -1, 0, 1)", () -> x.nextLift(1, -1, 0, 1));
        Due.index("nextLift(-1, 0, 0, 1)", () -> x.nextLift(-1, 0, 0, 1));
        Due.argument("nextLift(0, -1, 0, 1)", () -> x.nextLift(0, -1, 0, 1));
        Due.argument("nextLift(0, 401, 0, 1)", () -> x.nextLift(0, 401, 0, 1));
        Due.argument("nextLift(0, 0, -1, 1)", () -> x.nextLift(0, 0, -1, 1));
        Due.argument("nextLift(0, 0, 100, 1)", () -> x.nextLift(0, 0, 100, 1));
        Due.argument("nextLift(0, 0, 0, 0)", () -> x.nextLift(0, 0, 0, 0));
        Due.argument("nextLift(0, 0, 0, 100001)", () -> x.nextLift(0, 0, 0, 100001));
    }

    private static void nextFar() {
        // days above 400 count, lifts themselves cannot be there
        SlipwayYard x = yard(9);
        lift(x, true, 0, 400, 0);
        next(x, 401, 0, 400, 0);
        next(x, 401, 0, 400, 5);
        next(x, 402, 0, 400, 6);
        next(x, 420, 0, 381, 99);
        next(x, 380, 0, 380, 99);
        // up to day 500, which the way from any lift is too short to pass: only the weight leaves none
        Due.is("nextLift(0, 0, 0, 10)", -1, () -> x.nextLift(0, 0, 0, 10));
    }
}
