/** Promises 41 to 43: delays, late lengths and the parts of the causers. */
public final class ClaimsTest {
    public static void main(String[] args) {
        delays();
        delaysWrong();
        lateLengths();
        parts();
        partsOfFour();
        partsBelowZero();
        noWorks();
        Due.end();
    }

    private static void delays() {
        SlipwayYard x = Due.net("a=5;b=3");
        Due.is("delay(0, 0, 60)", 0, () -> x.delay(0, 0, 60));
        Due.is("delay(0, 3, 7)", 0, () -> x.delay(0, 3, 7));
        Due.is("delay(1, 0, 9)", 0, () -> x.delay(1, 0, 9));
        Due.is("delay(0, 0, 0)", 60, () -> x.delay(0, 0, 0));
        Due.is("delay(0, 0, 1)", 0, () -> x.delay(0, 0, 1));
        Due.is("delay(0, 3, 8)", 7, () -> x.delay(0, 3, 8));
        Due.is("delay(1, 0, 9)", 9, () -> x.delay(1, 0, 9));
        Due.is("length() without delays", 5, x::length);
        Due.is("early(1) without delays", 0, () -> x.early(1));
        Due.is("the time stays", 5, () -> x.set(0, 0, 5));
        x.work(1, 1, 0, 0);
        Due.is("a new work has none", 0, () -> x.delay(2, 3, 0));
    }

    private static void delaysWrong() {
        SlipwayYard x = new SlipwayYard();
        Due.index("delay without works", () -> x.delay(0, 0, 0));
        x.work(5, 5, 0, 0);
        x.delay(0, 1, 4);
        Due.index("delay(1, 4, 0)", () -> x.delay(1, 4, 0));
        Due.index("delay(-1, 0, 0)", () -> x.delay(-1, 0, 0));
        Due.argument("delay(0, -1, 0)", () -> x.delay(0, -1, 0));
        Due.argument("delay(0, 4, 0)", () -> x.delay(0, 4, 0));
        Due.argument("delay(0, 1, -1)", () -> x.delay(0, 1, -1));
        Due.argument("delay(0, 1, 61)", () -> x.delay(0, 1, 61));
        Due.is("the delay stays", 4, () -> x.delay(0, 1, 4));
        Due.argument("lateLength(-1)", () -> x.lateLength(-1));
        Due.argument("lateLength(16)", () -> x.lateLength(16));
        Due.argument("claim(-1, true)", () -> x.claim(-1, true));
        Due.argument("claim(4, false)", () -> x.claim(4, false));
    }

    private static void lateLengths() {
        // a row a b, and c beside it
        SlipwayYard x = Due.net("a=2;b=3;c=4;a>b+1");
        x.delay(0, 0, 1);
        x.delay(1, 1, 2);
        x.delay(2, 2, 5);
        x.delay(0, 3, 10);
        x.delay(2, 3, 20);
        int[] due = {6, 7, 8, 9, 9, 9, 9, 9, 24, 24, 24, 24, 29, 29, 29, 29};
        for (int causers = 0; causers < 16; causers++) {
            int its = causers;
            Due.is("lateLength(" + causers + ")", due[causers], () -> x.lateLength(its));
        }
        SlipwayYard y = new SlipwayYard();
        for (int work = 0; work < 16; work++) {
            y.work(60, 60, 0, 0);
            for (int causer = 0; causer < 4; causer++) {
                y.delay(work, causer, 60);
            }
            if (work > 0) {
                y.waits(work, work - 1, 0, 30);
            }
        }
        Due.is("the greatest late length", 16 * 300 + 15 * 30, () -> y.lateLength(15));
        part(y, 2, 960, 1);
    }

    private static void part(SlipwayYard x, int causer, long above, long below) {
        Due.is("claim(" + causer + ", false)", above, () -> x.claim(causer, false));
        Due.is("claim(" + causer + ", true)", below, () -> x.claim(causer, true));
    }

    private static void parts() {
        // causers 0 and 1 delay works beside each other by 4 and 6: 4 is in common, 2 is of causer 1 alone
        SlipwayYard x = Due.net("a=5;b=5");
        x.delay(0, 0, 4);
        x.delay(1, 1, 6);
        part(x, 0, 2, 1);
        part(x, 1, 4, 1);
        part(x, 2, 0, 1);
        part(x, 3, 0, 1);
        x.delay(0, 0, 3);
        part(x, 0, 3, 2);
        part(x, 1, 9, 2);
        // a third beside them: 1 for all three, 2 more for causers 0 and 1, 3 more for causer 1
        x.work(5, 5, 0, 0);
        x.delay(2, 3, 1);
        part(x, 3, 1, 3);
        part(x, 0, 4, 3);
        part(x, 1, 13, 3);
        Due.is("errors()", 0, x::errors);
    }

    private static void partsOfFour() {
        SlipwayYard x = Due.net("a=5;b=5;c=5;d=5");
        for (int causer = 0; causer < 4; causer++) {
            x.delay(causer, causer, 1);
        }
        for (int causer = 0; causer < 4; causer++) {
            part(x, causer, 1, 4);
        }
        // by heights 1, 2, 3, 4
        for (int causer = 0; causer < 4; causer++) {
            x.delay(causer, causer, causer + 1);
        }
        part(x, 0, 1, 4);
        part(x, 1, 7, 12);
        part(x, 2, 13, 12);
        part(x, 3, 25, 12);
    }

    private static void partsBelowZero() {
        // a must end behind c's end; b begins with a: a that takes longer begins sooner, and so does b
        SlipwayYard x = Due.net("a=1;b=9;c=20;c_a;a^b");
        Due.is("lateLength(0)", 28, () -> x.lateLength(0));
        x.delay(0, 1, 5);
        Due.is("lateLength(2)", 23, () -> x.lateLength(2));
        part(x, 1, -5, 1);
        x.delay(0, 2, 6);
        Due.is("lateLength(6)", 20, () -> x.lateLength(6));
        part(x, 1, -7, 2);
        part(x, 2, -9, 2);
        part(x, 0, 0, 1);
        Due.is("errors()", 0, x::errors);
    }

    private static void noWorks() {
        SlipwayYard x = new SlipwayYard();
        Due.is("lateLength(0)", 0, () -> x.lateLength(0));
        Due.is("lateLength(15)", 0, () -> x.lateLength(15));
        part(x, 0, 0, 1);
        part(x, 3, 0, 1);
    }
}
