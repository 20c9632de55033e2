/** Promises 35 to 37: slips, stands, and where the first stand could be. */
public final class SlipsTest {
    public static void main(String[] args) {
        slips();
        standing();
        standingWrong();
        twentyStands();
        finding();
        findingWrong();
        findingFar();
        Due.end();
    }

    private static void slips() {
        SlipwayYard x = new SlipwayYard();
        Due.argument("slip(0)", () -> x.slip(0));
        Due.argument("slip(101)", () -> x.slip(101));
        Due.argument("slip(-1)", () -> x.slip(-1));
        Due.is("slip(1)", 0, () -> x.slip(1));
        Due.is("slip(100)", 1, () -> x.slip(100));
        Due.is("slip(50)", 2, () -> x.slip(50));
        Due.state("a 4th slip", () -> x.slip(50));
        Due.argument("a 4th slip out of range", () -> x.slip(101));
        Due.is("stand on all of slip 0", true, () -> x.stand(0, 0, 1, 0, 1));
        Due.is("stand on all of slip 1", true, () -> x.stand(1, 0, 100, 0, 1));
        Due.is("stand on all of slip 2", true, () -> x.stand(2, 0, 50, 0, 1));
    }

    private static void standing() {
        SlipwayYard x = new SlipwayYard();
        x.slip(20);
        x.slip(20);
        Due.is("stand(0, 5, 4, 10, 3)", true, () -> x.stand(0, 5, 4, 10, 3));
        Due.is("the same again", false, () -> x.stand(0, 5, 4, 10, 3));
        Due.is("on the other slip", true, () -> x.stand(1, 5, 4, 10, 3));
        Due.is("its last place on its last day", false, () -> x.stand(0, 8, 1, 12, 1));
        Due.is("its first place on its first day", false, () -> x.stand(0, 0, 6, 1, 10));
        Due.is("around it", false, () -> x.stand(0, 0, 20, 0, 100));
        Due.is("up to it in place", true, () -> x.stand(0, 0, 5, 11, 1));
        Due.is("behind it in place", true, () -> x.stand(0, 9, 11, 12, 50));
        Due.is("up to it in time", true, () -> x.stand(0, 6, 2, 0, 10));
        Due.is("behind it in time", true, () -> x.stand(0, 6, 2, 13, 100));
        Due.is("a false one changed nothing", true, () -> x.stand(0, 0, 5, 12, 100));
        Due.is("errors()", 0, x::errors);
    }

    private static void standingWrong() {
        SlipwayYard x = new SlipwayYard();
        Due.index("stand without slips", () -> x.stand(0, 0, 1, 0, 1));
        x.slip(10);
        Due.index("stand(1, ..)", () -> x.stand(1, 0, 1, 0, 1));
        Due.index("stand(-1, -1, ..)", () -> x.stand(-1, -1, 1, 0, 1));
        Due.argument("stand(0, -1, 1, 0, 1)", () -> x.stand(0, -1, 1, 0, 1));
        Due.argument("stand(0, 10, 1, 0, 1)", () -> x.stand(0, 10, 1, 0, 1));
        Due.argument("stand(0, 0, 0, 0, 1)", () -> x.stand(0, 0, 0, 0, 1));
        Due.argument("stand(0, 0, 11, 0, 1)", () -> x.stand(0, 0, 11, 0, 1));
        Due.argument("stand(0, 4, 7, 0, 1)", () -> x.stand(0, 4, 7, 0, 1));
        Due.argument("stand(0, 9, Integer.MAX_VALUE, 0, 1)", () -> x.stand(0, 9, Integer.MAX_VALUE, 0, 1));
        Due.argument("stand(0, Integer.MAX_VALUE, 1, 0, 1)", () -> x.stand(0, Integer.MAX_VALUE, 1, 0, 1));
        Due.argument("stand(0, Integer.MIN_VALUE, 1, 0, 1)", () -> x.stand(0, Integer.MIN_VALUE, 1, 0, 1));
        Due.argument("stand(0, 0, 1, -1, 1)", () -> x.stand(0, 0, 1, -1, 1));
        Due.argument("stand(0, 0, 1, 401, 1)", () -> x.stand(0, 0, 1, 401, 1));
        Due.argument("stand(0, 0, 1, 0, 0)", () -> x.stand(0, 0, 1, 0, 0));
        Due.argument("stand(0, 0, 1, 0, 101)", () -> x.stand(0, 0, 1, 0, 101));
        Due.is("the slip is still free", 0, () -> x.firstStand(0, 10, 100, false));
        Due.is("stand(0, 4, 6, 0, 1)", true, () -> x.stand(0, 4, 6, 0, 1));
        Due.is("stand(0, 9, 1, 400, 100)", true, () -> x.stand(0, 9, 1, 400, 100));
    }

    private static void twentyStands() {
        SlipwayYard x = new SlipwayYard();
        x.slip(10);
        x.slip(10);
        for (int k = 0; k < 20; k++) {
            int day = k;
            Due.is("a stand without room is no stand", k > 0 ? false : true, () -> x.stand(0, 0, 10, 0, 1));
            Due.is("stand", k > 0, () -> x.stand(0, 0, 10, day, 1));
        }
        Due.state("a 21st stand", () -> x.stand(0, 0, 10, 100, 1));
        Due.state("a 21st stand without room", () -> x.stand(0, 0, 10, 0, 1));
        Due.argument("a 21st stand out of range", () -> x.stand(0, 0, 11, 100, 1));
        Due.index("a 21st stand on no slip", () -> x.stand(2, 0, 11, 100, 1));
        Due.is("firstStand() all the same", 20, () -> x.firstStand(0, 10, 1, false));
        Due.is("a stand on the other slip", true, () -> x.stand(1, 0, 10, 0, 1));
        Due.is("errors()", 0, x::errors);
    }

    private static void finding() {
        SlipwayYard x = new SlipwayYard();
        x.slip(10);
        first(x, 10, 100, 0, 0);
        x.stand(0, 0, 4, 0, 6);
        x.stand(0, 6, 4, 3, 5);
        // places 4 to 9 are free up to day 3
        first(x, 6, 3, 0, 4);
        first(x, 2, 100, 0, 4);
        first(x, 4, 3, 0, 4);
        first(x, 3, 4, 6, 0);
        first(x, 6, 4, 6, 0);
        first(x, 7, 4, 8, 0);
        first(x, 10, 1, 8, 0);
        // an earlier day goes ahead of a lesser place
        x.stand(0, 4, 1, 0, 1);
        first(x, 2, 3, 0, 5);
        first(x, 1, 9, 0, 5);
        first(x, 6, 2, 1, 4);
        // a gap in time just as long as asked for
        SlipwayYard y = new SlipwayYard();
        y.slip(5);
        y.stand(0, 0, 5, 0, 3);
        y.stand(0, 0, 5, 7, 2);
        first(y, 5, 4, 3, 0);
        first(y, 5, 5, 9, 0);
        // the second slip is of its own
        y.slip(3);
        Due.is("firstStand(1, 3, 9, false)", 0, () -> y.firstStand(1, 3, 9, false));
    }

    private static void first(SlipwayYard x, int length, int days, int day, int place) {
        Due.is("firstStand(0, " + length + ", " + days + ", false)", day, () -> x.firstStand(0, length, days, false));
        Due.is("firstStand(0, " + length + ", " + days + ", true)", place, () -> x.firstStand(0, length, days, true));
    }

    private static void findingWrong() {
        SlipwayYard x = new SlipwayYard();
        Due.index("firstStand without slips", () -> x.firstStand(0, 1, 1, true));
        x.slip(10);
        Due.index("firstStand(1, 0, 1, true)", () -> x.firstStand(1, 0, 1, true));
        Due.index("firstStand(-1, 1, 1, true)", () -> x.firstStand(-1, 1, 1, true));
        Due.argument("firstStand(0, 0, 1, true)", () -> x.firstStand(0, 0, 1, true));
        Due.argument("firstStand(0, 11, 1, true)", () -> x.firstStand(0, 11, 1, true));
        Due.argument("firstStand(0, 1, 0, true)", () -> x.firstStand(0, 1, 0, true));
        Due.argument("firstStand(0, 1, 101, true)", () -> x.firstStand(0, 1, 101, true));
    }

    private static void findingFar() {
        // 20 stands, and days above 400
        SlipwayYard x = new SlipwayYard();
        x.slip(2);
        for (int day = 0; day <= 300; day += 100) {
            x.stand(0, 0, 2, day, 100);
        }
        first(x, 1, 1, 400, 0);
        x.stand(0, 0, 1, 400, 100);
        first(x, 1, 100, 400, 1);
        first(x, 2, 1, 500, 0);
        x.stand(0, 1, 1, 400, 90);
        first(x, 1, 1, 490, 1);
        SlipwayYard y = new SlipwayYard();
        y.slip(20);
        for (int place = 0; place < 20; place++) {
            y.stand(0, place, 1, 0, 1 + place);
        }
        first(y, 1, 1, 1, 0);
        first(y, 3, 5, 3, 0);
        first(y, 20, 1, 20, 0);
    }
}
