import java.lang.reflect.Field;

/** Section 7 and promises 41 to 44: delays, late lengths, parts and checks. */
final class ClaimBounds {
    private static final String PART = "Section 7";

    private ClaimBounds() {
    }

    static void all() {
        terms();
        delay();
        lateLength();
        claim();
        errors();
        found();
    }

    private static Bounds.Recipe net(String text) {
        return () -> Due.net(text);
    }

    /** 16 works in a row with the greatest times, lags and delays. */
    private static SlipwayYard latest() {
        SlipwayYard x = new SlipwayYard();
        for (int work = 0; work < 16; work++) {
            x.work(60, 60, 0, 0);
            for (int causer = 0; causer < 4; causer++) {
                x.delay(work, causer, 60);
            }
            if (work > 0) {
                x.waits(work, work - 1, SlipwayYard.ENDS_BEGINS, 30);
            }
        }
        return x;
    }

    /** A work for each causer, beside each other, which takes longer by these days. */
    private static Bounds.Recipe four(int... days) {
        return () -> {
            SlipwayYard x = Due.net("a=5;b=5;c=5;d=5");
            for (int causer = 0; causer < 4; causer++) {
                x.delay(causer, causer, days[causer]);
            }
            return x;
        };
    }

    private static String part(SlipwayYard x, int causer) {
        return x.claim(causer, false) + "/" + x.claim(causer, true);
    }

    private static String parts(SlipwayYard x) {
        return part(x, 0) + " " + part(x, 1) + " " + part(x, 2) + " " + part(x, 3);
    }

    private static void terms() {
        Bounds.of(PART, "with a causer from 0 to 3", () -> {
            Bounds.answers("of each causer", "0 0 0 0 10", net("a=0"), x -> x.delay(0, 0, 1) + " " + x.delay(0, 1, 2) + " "
                + x.delay(0, 2, 3) + " " + x.delay(0, 3, 4) + " " + x.lateLength(15));
            Bounds.refuses("a causer 4", Bounds.ARGUMENT, ClaimBounds::latest, x -> x.delay(0, 4, 1));
            Bounds.refuses("a causer -1", Bounds.ARGUMENT, ClaimBounds::latest, x -> x.delay(1, -1, 1));
        });
        Bounds.of(PART, "a work can have delays by several", () -> {
            Bounds.answers("60 by each", 300, net("a=60"), ClaimBounds::sixtyByEach);
            Bounds.answers("one of them ends", "60 5190", ClaimBounds::latest,
                x -> x.delay(15, 3, 0) + " " + x.lateLength(15));
        });
        Bounds.of(PART, "For a set of causers the late length is the length if all times are longer by the delays of these", () -> {
            Bounds.answers("of no causer", 1410, ClaimBounds::latest, x -> x.lateLength(0));
            Bounds.answers("of one causer", 2370, ClaimBounds::latest, x -> x.lateLength(8));
            Bounds.answers("of all causers", 5250, ClaimBounds::latest, x -> x.lateLength(15));
        });
        Bounds.of(PART, "The part of a causer is the mean, over all 24 orders of the four causers", () -> {
            Bounds.answers("all in common", "1/4 1/4 1/4 1/4", four(1, 1, 1, 1), ClaimBounds::parts);
            Bounds.answers("60 by each", "15/1 15/1 15/1 15/1", four(60, 60, 60, 60), ClaimBounds::parts);
            Bounds.answers("1, 2, 3 and 4", "1/4 7/12 13/12 25/12", four(1, 2, 3, 4), ClaimBounds::parts);
        });
        Bounds.of(PART, "for those up to it, it among them, than for those ahead of it", () -> {
            Bounds.answers("one alone", "0/1 60/1 0/1 0/1", four(0, 60, 0, 0), ClaimBounds::parts);
            Bounds.answers("none", "0/1 0/1 0/1 0/1", four(0, 0, 0, 0), ClaimBounds::parts);
            Bounds.answers("all behind each other", "960/1 960/1 960/1 960/1", ClaimBounds::latest, ClaimBounds::parts);
        });
        Bounds.of(PART, "`NONE = -1`: There is none", () -> Due.is("NONE", -1, () -> SlipwayYard.NONE));
        Bounds.of(PART, "`ENDS_BEGINS = 0, BEGINS_BEGINS = 1, ENDS_ENDS = 2, BEGINS_ENDS = 3`: Sorts of waits", () -> {
            Due.is("ENDS_BEGINS", 0, () -> SlipwayYard.ENDS_BEGINS);
            Due.is("BEGINS_BEGINS", 1, () -> SlipwayYard.BEGINS_BEGINS);
            Due.is("ENDS_ENDS", 2, () -> SlipwayYard.ENDS_ENDS);
            Due.is("BEGINS_ENDS", 3, () -> SlipwayYard.BEGINS_ENDS);
        });
    }

    private static int sixtyByEach(SlipwayYard x) {
        for (int causer = 0; causer < 4; causer++) {
            x.delay(0, causer, 60);
        }
        return x.lateLength(15);
    }

    private static void delay() {
        String part = "Promise 41";
        Bounds.none(part, "Sets the delay of a work by a causer");
        Bounds.of(part, "`work`: number of a work", () -> {
            Bounds.range("work", 0, 60, 15, 60, Bounds.INDEX, ClaimBounds::latest, (x, v) -> x.delay(v, 3, 0));
            Bounds.range("work", 0, 0, 0, 0, Bounds.INDEX, net("a=60"), (x, v) -> x.delay(v, 3, 60));
        });
        Bounds.of(part, "`causer`: 0 to 3", () -> Bounds.range("causer", 0, "0 30 10 10 10", 3, "0 10 10 10 30",
            Bounds.ARGUMENT, net("a=10"), (x, v) -> x.delay(0, v, 20) + " " + x.lateLength(1) + " " + x.lateLength(2) + " "
                + x.lateLength(4) + " " + x.lateLength(8)));
        Bounds.of(part, "`days`: 0 to 60", () -> Bounds.range("days", 0, "0 60", 60, "0 120", Bounds.ARGUMENT, net("a=60"),
            (x, v) -> x.delay(0, 2, v) + " " + x.lateLength(4)));
        Bounds.of(part, "Returns what it was", () -> {
            Bounds.answers("of a work without delays", 0, net("a=60"), x -> x.delay(0, 0, 60));
            Bounds.answers("set, set to what it is, and ended", "0 60 60 0", net("a=60"), x -> x.delay(0, 0, 60) + " "
                + x.delay(0, 0, 60) + " " + x.delay(0, 0, 0) + " " + x.delay(0, 0, 0));
            // neighbours in any row of all of them
            Bounds.answers("the last causer of a work, the first of the next", "0 7 0", net("a=1;b=1"),
                x -> x.delay(0, 3, 7) + " " + x.delay(0, 3, 8) + " " + x.delay(1, 0, 9));
        });
        Bounds.of(part, "Throws `IndexOutOfBoundsException` if there is no such work", () -> {
            Bounds.refuses("delay(0, 0, 0) without works", Bounds.INDEX, Yards::empty, x -> x.delay(0, 0, 0));
            Bounds.refuses("delay(16, 4, 61) of 16", Bounds.INDEX, ClaimBounds::latest, x -> x.delay(16, 4, 61));
        });
        Bounds.of(part, "Throws `IllegalArgumentException` if a parameter is out of range", () -> {
            Bounds.refuses("delay(0, 3, 61)", Bounds.ARGUMENT, ClaimBounds::latest, x -> x.delay(0, 3, 61));
            Bounds.refuses("delay(0, 4, 0)", Bounds.ARGUMENT, ClaimBounds::latest, x -> x.delay(0, 4, 0));
            Bounds.refuses("delay(15, 4, 61)", Bounds.ARGUMENT, ClaimBounds::latest, x -> x.delay(15, 4, 61));
        });
    }

    private static void lateLength() {
        String part = "Promise 42";
        Bounds.none(part, "Returns the late length for a set of causers");
        Bounds.of(part, "`causers`: 0 to 15", () -> {
            Bounds.range("causers", 0, 1410, 15, 5250, Bounds.ARGUMENT, ClaimBounds::latest, SlipwayYard::lateLength);
            Bounds.range("causers without works", 0, 0, 15, 0, Bounds.ARGUMENT, Yards::empty, SlipwayYard::lateLength);
        });
        Bounds.of(part, "the sum of 1, 2, 4 and 8 for the causers 0 to 3 in it", () -> {
            for (int causer = 0; causer < 4; causer++) {
                int its = causer;
                Bounds.answers("of causer " + causer, 10 + causer, four(5, 6, 7, 8), x -> x.lateLength(1 << its));
                Bounds.answers("of all but causer " + causer, causer == 3 ? 12 : 13, four(5, 6, 7, 8),
                    x -> x.lateLength(15 - (1 << its)));
            }
        });
        Bounds.of(part, "Returns the days", () -> {
            Bounds.answers("the greatest late length", 16 * 300 + 15 * 30, ClaimBounds::latest, x -> x.lateLength(15));
            Bounds.answers("one below the length", 23, ClaimBounds::sooner, x -> x.lateLength(1));
        });
        Bounds.of(part, "Throws `IllegalArgumentException` if causers is out of range", () -> {
            Bounds.refuses("lateLength(16)", Bounds.ARGUMENT, ClaimBounds::latest, x -> x.lateLength(16));
            Bounds.refuses("lateLength(-1)", Bounds.ARGUMENT, ClaimBounds::latest, x -> x.lateLength(-1));
        });
    }

    /** Work 1 begins with work 0, which ends with work 2, and so begins sooner if it takes longer. */
    private static SlipwayYard sooner() {
        SlipwayYard x = Due.net("a=1;b=9;c=20;c_a;a^b");
        x.delay(0, 0, 5);
        return x;
    }

    private static void claim() {
        String part = "Promise 43";
        Bounds.none(part, "Returns the part of a causer, as a fraction");
        Bounds.of(part, "`causer`: 0 to 3", () -> {
            Bounds.range("causer", 0, "1/4", 3, "25/12", Bounds.ARGUMENT, four(1, 2, 3, 4), ClaimBounds::part);
            Bounds.range("causer without works", 0, "0/1", 3, "0/1", Bounds.ARGUMENT, Yards::empty, ClaimBounds::part);
        });
        Bounds.of(part, "`isUnder`: true for what is below the line, false for what is above it", () -> {
            Bounds.answers("all of it", "960/1", ClaimBounds::oneCauser, x -> part(x, 2));
            Bounds.answers("a part below 0", "-5/1", ClaimBounds::sooner, x -> part(x, 0));
            Bounds.answers("no part", "0/1", ClaimBounds::sooner, x -> part(x, 3));
        });
        Bounds.none(part, "Returns this");
        Bounds.of(part, "Throws `IllegalArgumentException` if causer is out of range", () -> {
            Bounds.refuses("claim(4, true)", Bounds.ARGUMENT, ClaimBounds::latest, x -> x.claim(4, true));
            Bounds.refuses("claim(-1, false)", Bounds.ARGUMENT, ClaimBounds::latest, x -> x.claim(-1, false));
        });
    }

    /** 16 works in a row that causer 2 alone makes longer, by 60 days each. */
    private static SlipwayYard oneCauser() {
        SlipwayYard x = latest();
        for (int work = 0; work < 16; work++) {
            x.delay(work, 0, 0);
            x.delay(work, 1, 0);
            x.delay(work, 3, 0);
        }
        return x;
    }

    private static void errors() {
        Bounds.of("Promise 44", "Nothing changes", () -> {
            Bounds.Recipe[] recipes = {Yards::empty, Yards::busy, Yards::fullNet, Yards::fullYard, ClaimBounds::latest};
            for (Bounds.Recipe recipe : recipes) {
                SlipwayYard x = recipe.make();
                Due.is("errors()", 0, x::errors);
                Due.is("what can be seen behind errors()", Witness.of(recipe.make()), () -> Witness.of(x));
            }
        });
        Bounds.of("Promise 44", "Returns how many checks fail; always 0", () -> {
            Bounds.answers("without anything", 0, Yards::empty, SlipwayYard::errors);
            Bounds.answers("with works of no days", 0, net("a=0;b=0;a>b;a<b"), SlipwayYard::errors);
            Bounds.answers("with a length below 3", 0, net("a=2/0"), SlipwayYard::errors);
            Bounds.answers("with the greatest late length", 0, ClaimBounds::latest, SlipwayYard::errors);
            Bounds.answers("with 16 works and 40 waits", 0, Yards::fullNet, SlipwayYard::errors);
            Bounds.answers("with 20 stands and 30 lifts", 0, Yards::fullYard, SlipwayYard::errors);
            Bounds.answers("with parts below 0", 0, ClaimBounds::sooner, SlipwayYard::errors);
            Bounds.answers("with a wait that tells a day below 0", 0, net("a=2;b=3;a_b"), SlipwayYard::errors);
        });
    }

    /** What no call can make wrong is spoilt from within, to see how far errors() looks. */
    private static void found() {
        Bounds.of("Promise 44", "in the length and in each of the 3 lengths below it", () -> {
            found("the length 3 and three below it", 4, "a=3/0");
            found("the length 2 and two below it", 3, "a=2/0");
            found("the length 1 and one below it", 2, "a=1/0");
            found("the length 60 and three below it", 4, "a=60/1");
        });
        Bounds.of("Promise 44", "if these are at most 500", () -> {
            found("5 * 10 * 10 ways, just 500", 4, "a=60/56;b=60/51;c=60/51");
            found("7 * 8 * 9 ways, 504", 0, "a=60/54;b=60/53;c=60/52");
            found("61 to the 16th ways", 0, "a=60/0;b=60/0;c=60/0;d=60/0;e=60/0;f=60/0;g=60/0;h=60/0;i=60/0;j=60/0;k=60/0"
                + ";l=60/0;m=60/0;n=60/0;o=60/0;p=60/0");
            // 2 to the 32nd and to the 64th: an int or a long would take these for 0
            found("16 to the 8th ways", 0, eight("60/45"));
            found("16 to the 16th ways", 0, eight("60/45") + ";i=60/45;j=60/45;k=60/45;l=60/45;m=60/45;n=60/45;o=60/45;p=60/45");
        });
    }

    private static String eight(String times) {
        StringBuilder text = new StringBuilder();
        for (char work = 'a'; work <= 'h'; work++) {
            text.append(work == 'a' ? "" : ";").append(work).append('=').append(times);
        }
        return text.toString();
    }

    /** How many checks fail when the price of work 0 is below 0, by which shortening it is no cost at all. */
    private static void found(String what, int due, String text) {
        SlipwayYard x = Due.net(text);
        Due.is("errors() ahead, " + what, 0, x::errors);
        try {
            Field net = SlipwayYard.class.getDeclaredField("net");
            net.setAccessible(true);
            Field price = net.get(x).getClass().getDeclaredField("price");
            price.setAccessible(true);
            ((int[]) price.get(net.get(x)))[0] = -1;
        } catch (ReflectiveOperationException e) {
            throw new IllegalStateException(e);
        }
        Due.is("errors() found, " + what, due, x::errors);
    }
}
