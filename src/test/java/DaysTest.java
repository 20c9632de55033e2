/** Promises 23 to 25: days of rest, free days and work days. */
public final class DaysTest {
    public static void main(String[] args) {
        resting();
        freeing();
        counting();
        oneDayAWeek();
        allFree();
        Due.end();
    }

    private static void day(SlipwayYard x, int number, int day) {
        Due.is("dayOf(" + number + ")", day, () -> x.dayOf(number));
    }

    private static void resting() {
        SlipwayYard x = new SlipwayYard();
        Due.argument("rest(-1)", () -> x.rest(-1));
        Due.argument("rest(7)", () -> x.rest(7));
        for (int weekday = 0; weekday < 6; weekday++) {
            int its = weekday;
            Due.is("rest(" + weekday + ")", true, () -> x.rest(its));
        }
        Due.state("rest(6), the last weekday", () -> x.rest(6));
        Due.argument("rest(7) with one weekday left", () -> x.rest(7));
        day(x, 0, 6);
        day(x, 1, 13);
        Due.is("rest(2), none any more", false, () -> x.rest(2));
        day(x, 0, 2);
        day(x, 1, 6);
        day(x, 2, 9);
        Due.is("rest(6)", true, () -> x.rest(6));
        Due.state("rest(2)", () -> x.rest(2));
        day(x, 0, 2);
        day(x, 1, 9);
    }

    private static void freeing() {
        SlipwayYard x = new SlipwayYard();
        Due.argument("free(-1)", () -> x.free(-1));
        Due.argument("free(401)", () -> x.free(401));
        Due.is("free(0)", true, () -> x.free(0));
        Due.is("free(400)", true, () -> x.free(400));
        day(x, 0, 1);
        day(x, 398, 399);
        day(x, 399, 401);
        Due.is("free(0) again", false, () -> x.free(0));
        day(x, 0, 0);
        day(x, 399, 399);
        day(x, 400, 401);
        // a free day that is a day of rest as well stays free when the weekday works again
        Due.is("free(1)", true, () -> x.free(1));
        Due.is("rest(1)", true, () -> x.rest(1));
        day(x, 1, 2);
        Due.is("rest(1)", false, () -> x.rest(1));
        day(x, 1, 2);
        Due.is("free(1)", false, () -> x.free(1));
        day(x, 1, 1);
    }

    private static void counting() {
        SlipwayYard x = new SlipwayYard();
        Due.argument("dayOf(-1)", () -> x.dayOf(-1));
        Due.argument("dayOf(2001)", () -> x.dayOf(2001));
        day(x, 2000, 2000);
        x.rest(5);
        x.rest(6);
        day(x, 0, 0);
        day(x, 4, 4);
        day(x, 5, 7);
        day(x, 289, 403);
        day(x, 290, 406);
        day(x, 291, 407);
        day(x, 294, 410);
        day(x, 295, 413);
        day(x, 2000, 2800);
        x.free(7);
        day(x, 4, 4);
        day(x, 5, 8);
        day(x, 2000, 2801);
        allOf(0, 300);
        allOf(300, 600);
    }

    /** The work days from a number on, without the weekdays 5 and 6 and the day 7. */
    private static void allOf(int from, int upTo) {
        SlipwayYard x = new SlipwayYard();
        x.rest(5);
        x.rest(6);
        x.free(7);
        for (int number = from; number < upTo; number++) {
            // without the free day 7, number + 1 others are ahead
            int due = number < 5 ? number : (number + 1) / 5 * 7 + (number + 1) % 5;
            day(x, number, due);
        }
    }

    private static void oneDayAWeek() {
        SlipwayYard x = new SlipwayYard();
        for (int weekday = 0; weekday < 7; weekday++) {
            if (weekday != 3) {
                x.rest(weekday);
            }
        }
        day(x, 0, 3);
        day(x, 57, 402);
        day(x, 58, 409);
        day(x, 2000, 14003);
    }

    private static void allFree() {
        SlipwayYard x = new SlipwayYard();
        for (int day = 0; day <= 400; day++) {
            x.free(day);
        }
        day(x, 0, 401);
        day(x, 5, 406);
        day(x, 1599, 2000);
        day(x, 2000, 2401);
        x.rest(2);
        // day 401 is weekday 2
        day(x, 0, 402);
        x.free(400);
        day(x, 0, 400);
    }
}
