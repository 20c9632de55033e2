/** Section 4 and promises 23 to 25: work days. */
final class DayBounds {
    private static final String PART = "Section 4";

    private DayBounds() {
    }

    static void all() {
        terms();
        rest();
        free();
        dayOf();
    }

    /** A yard with these weekdays of rest, then these free days from a number on, one of each so many. */
    private static SlipwayYard yard(String resting, int from, int upTo, int step) {
        SlipwayYard x = new SlipwayYard();
        for (char weekday : resting.toCharArray()) {
            x.rest(weekday - '0');
        }
        for (int day = from; day <= upTo; day += step) {
            x.free(day);
        }
        return x;
    }

    private static SlipwayYard resting(String weekdays) {
        return yard(weekdays, 1, 0, 1);
    }

    private static SlipwayYard allFree() {
        return yard("", 0, 400, 1);
    }

    private static void day(String what, Bounds.Recipe recipe, int number, int due) {
        Bounds.answers("dayOf(" + number + ") " + what, due, recipe, x -> x.dayOf(number));
    }

    private static void terms() {
        Bounds.of(PART, "Calendar days are numbered from 0", () -> {
            day("of a new yard", Yards::empty, 0, 0);
            day("of a new yard", Yards::empty, 2000, 2000);
        });
        Bounds.of(PART, "day d is weekday d modulo 7", () -> {
            for (int weekday = 0; weekday < 7; weekday++) {
                // a weekday of rest takes itself out of each week, also behind day 400
                String its = String.valueOf(weekday);
                day("without weekday " + its, () -> resting(its), 0, weekday == 0 ? 1 : 0);
                day("without weekday " + its, () -> resting(its), weekday, weekday + 1);
                day("without weekday " + its, () -> resting(its), 6, weekday == 0 ? 8 : 7);
                day("without weekday " + its, () -> resting(its), 600 + weekday, 700 + weekday + 1);
            }
        });
        Bounds.of(PART, "A weekday can be a day of rest; single days can be free", () -> {
            day("without day 3 and the weekday 3", () -> yard("3", 3, 3, 1), 3, 4);
            day("without day 3 and the weekday 3", () -> yard("3", 3, 3, 1), 9, 11);
            // either is enough, and each ends alone
            Bounds.answers("day 3, free and of rest", "false 4 false 3", () -> yard("3", 3, 3, 1),
                x -> x.free(3) + " " + x.dayOf(3) + " " + x.rest(3) + " " + x.dayOf(3));
            Bounds.answers("day 3, of rest and free", "false 4 false 3", () -> yard("3", 3, 3, 1),
                x -> x.rest(3) + " " + x.dayOf(3) + " " + x.free(3) + " " + x.dayOf(3));
        });
        Bounds.of(PART, "All other days are work days", () -> {
            day("behind all days that can be free", DayBounds::allFree, 0, 401);
            day("behind all days that can be free", DayBounds::allFree, 2000, 2401);
            day("when one of them is not", () -> yard("", 0, 399, 1), 0, 400);
            day("of one weekday", () -> resting("012345"), 0, 6);
        });
        Bounds.of(PART, "The work day n is the one ahead of which there are n others", () -> {
            day("with day 0 free", () -> yard("", 0, 0, 1), 0, 1);
            day("with day 400 free", () -> yard("", 400, 400, 1), 399, 399);
            day("with day 400 free", () -> yard("", 400, 400, 1), 400, 401);
            // where the weeks become the same: day 406 is the first of one
            for (int number = 395; number < 420; number++) {
                day("with day 400 free", () -> yard("", 400, 400, 1), number, number < 400 ? number : number + 1);
            }
        });
    }

    private static void rest() {
        String part = "Promise 23";
        Bounds.of(part, "Makes a weekday a day of rest, or makes it none any more", () -> {
            Bounds.answers("rest(3) three times", "true 4 false 3 true 4", Yards::empty,
                x -> x.rest(3) + " " + x.dayOf(3) + " " + x.rest(3) + " " + x.dayOf(3) + " " + x.rest(3) + " " + x.dayOf(3));
            // one of six can become none any more, and then the seventh can be one
            Bounds.answers("rest(0), then rest(6)", "false true 0", () -> resting("012345"),
                x -> x.rest(0) + " " + x.rest(6) + " " + x.dayOf(0));
        });
        Bounds.of(part, "`weekday`: 0 to 6", () -> {
            Bounds.range("weekday", 0, "true 1", 6, "true 0", Bounds.ARGUMENT, Yards::empty,
                (x, v) -> x.rest(v) + " " + x.dayOf(0));
            Bounds.range("weekday", 0, "false", 6, "throws.IllegalStateException", Bounds.ARGUMENT,
                () -> resting("012345"), (x, v) -> String.valueOf(x.rest(v)));
        });
        Bounds.of(part, "Returns whether it is one then", () -> {
            Bounds.answers("of a new yard", true, Yards::empty, x -> x.rest(6));
            Bounds.answers("of a day of rest", false, () -> resting("6"), x -> x.rest(6));
        });
        Bounds.of(part, "Throws `IllegalArgumentException` if weekday is out of range", () -> {
            Bounds.refuses("rest(7) with one work day left", Bounds.ARGUMENT, () -> resting("012345"), x -> x.rest(7));
            Bounds.refuses("rest(-1) with one work day left", Bounds.ARGUMENT, () -> resting("012345"), x -> x.rest(-1));
        });
        Bounds.of(part, "Throws `IllegalStateException` if all weekdays would be days of rest", () -> {
            for (int weekday = 0; weekday < 7; weekday++) {
                String others = "0123456".replace(String.valueOf(weekday), "");
                int its = weekday;
                Bounds.refuses("rest(" + weekday + ") behind all others", Bounds.STATE, () -> resting(others), x -> x.rest(its));
                Bounds.answers("rest(" + weekday + ") behind five others", true, () -> resting(others.substring(1)),
                    x -> x.rest(its));
            }
            // free days make no weekday a day of rest
            Bounds.answers("rest(1) with all days free", true, DayBounds::allFree, x -> x.rest(1));
        });
    }

    private static void free() {
        String part = "Promise 24";
        Bounds.of(part, "Makes a calendar day free, or makes it not free any more", () -> Bounds.answers(
            "free(0) three times", "true 1 false 0 true 1", Yards::empty,
            x -> x.free(0) + " " + x.dayOf(0) + " " + x.free(0) + " " + x.dayOf(0) + " " + x.free(0) + " " + x.dayOf(0)));
        Bounds.of(part, "`day`: 0 to 400", () -> Bounds.range("day", 0, "true 401", 400, "true 401", Bounds.ARGUMENT,
            Yards::empty, (x, v) -> x.free(v) + " " + x.dayOf(400)));
        Bounds.of(part, "Returns whether it is free then", () -> {
            Bounds.answers("of a day of rest", true, () -> resting("1"), x -> x.free(400));
            Bounds.answers("of a free day", false, DayBounds::allFree, x -> x.free(400));
        });
        Bounds.of(part, "Throws `IllegalArgumentException` if day is out of range", () -> {
            Bounds.refuses("free(401)", Bounds.ARGUMENT, Yards::busy, x -> x.free(401));
            Bounds.refuses("free(-1)", Bounds.ARGUMENT, Yards::busy, x -> x.free(-1));
        });
    }

    private static void dayOf() {
        String part = "Promise 25";
        Bounds.none(part, "Returns a work day");
        Bounds.of(part, "`number`: 0 to 2000", () -> {
            Bounds.range("number", 0, 0, 2000, 2000, Bounds.ARGUMENT, Yards::empty, SlipwayYard::dayOf);
            // the farthest work days: the weekday 1 alone, with all its days up to 400 free
            Bounds.range("number", 0, 407, 2000, 14407, Bounds.ARGUMENT, () -> yard("023456", 1, 400, 7), SlipwayYard::dayOf);
        });
        Bounds.of(part, "Returns its calendar day", () -> {
            day("of the weekday 0 alone", () -> resting("123456"), 57, 399);
            day("of the weekday 0 alone", () -> resting("123456"), 58, 406);
            day("of the weekday 0 alone", () -> resting("123456"), 2000, 14000);
            day("of the weekday 6 alone", () -> resting("012345"), 56, 398);
            day("of the weekday 6 alone", () -> resting("012345"), 57, 405);
            day("of the weekday 6 alone", () -> resting("012345"), 2000, 14006);
            day("without day 400 and weekday 0", () -> yard("0", 400, 400, 1), 341, 398);
            day("without day 400 and weekday 0", () -> yard("0", 400, 400, 1), 342, 401);
        });
        Bounds.of(part, "Throws `IllegalArgumentException` if number is out of range", () -> {
            Bounds.refuses("dayOf(-1)", Bounds.ARGUMENT, Yards::busy, x -> x.dayOf(-1));
            Bounds.refuses("dayOf(2001)", Bounds.ARGUMENT, Yards::busy, x -> x.dayOf(2001));
        });
    }
}
