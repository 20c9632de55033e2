import java.lang.reflect.Field;

/** Promise 44: nothing is wrong in any yard, and asking changes nothing; what is spoilt by force is found. */
public final class ErrorsTest {
    private static long seed = 44;

    public static void main(String[] args) {
        empty();
        manyNets();
        nothingChanges();
        spoiltStands();
        spoiltWaits();
        lostWaits();
        Due.end();
    }

    /** A field of one of the classes inside, which no call can spoil. */
    private static Object inside(Object of, String field) {
        try {
            Field found = of.getClass().getDeclaredField(field);
            found.setAccessible(true);
            return found.get(of);
        } catch (ReflectiveOperationException e) {
            throw new IllegalStateException(e);
        }
    }

    private static void spoiltStands() {
        SlipwayYard x = new SlipwayYard();
        x.slip(9);
        x.stand(0, 2, 3, 4, 5);
        x.stand(0, 5, 3, 4, 5);
        Object slip = ((Object[]) inside(x, "slips"))[0];
        int[] place = (int[]) inside(slip, "place");
        int[] day = (int[]) inside(slip, "day");
        place[1] = 4;
        Due.is("errors() of stands with a place in common", 1, x::errors);
        day[1] = 9;
        Due.is("errors() of stands behind each other", 0, x::errors);
        day[1] = 8;
        Due.is("errors() of stands with a day in common", 1, x::errors);
        day[1] = 9;
        place[0] = 7;
        Due.is("errors() of a stand that leaves the slip", 1, x::errors);
        place[0] = 6;
        Due.is("errors() of a stand at the end of the slip", 0, x::errors);
    }

    private static void spoiltWaits() {
        SlipwayYard x = Due.net("a=5;b=3;c=2;a>b;b>c");
        int[] ordered = (int[]) inside(inside(x, "net"), "ordered");
        Due.is("errors()", 0, x::errors);
        ordered[0] = 1;
        ordered[1] = 0;
        // c begins at 3 ahead of b's end, b latest at 3 ahead of a's latest end, and lies on a row with the play -2
        Due.is("errors() of beginnings by the wrong order", 3, x::errors);
        SlipwayYard y = Due.net("a=3;b=5;c=2;a>c;b>a");
        ordered = (int[]) inside(inside(y, "net"), "ordered");
        ordered[0] = 0;
        ordered[1] = 1;
        Due.is("errors() of beginnings by the wrong order of other numbers", 3, y::errors);
    }

    /** A wait that is left out, which only the earliest or only the latest beginnings do not keep then. */
    private static void lostWaits() {
        SlipwayYard x = Due.net("a=5;b=3;c=0;a>b;b>c");
        int[] ordered = (int[]) inside(inside(x, "net"), "ordered");
        ordered[1] = 0;
        Due.is("late(2)", 8, () -> x.late(2));
        Due.is("errors() of an earliest beginning that is too early", 1, x::errors);
        SlipwayYard y = Due.net("a=0;b=3;c=2;a>b;b>c");
        ordered = (int[]) inside(inside(y, "net"), "ordered");
        ordered[0] = 1;
        Due.is("early(1)", 0, () -> y.early(1));
        Due.is("errors() of a latest beginning that is too late", 1, y::errors);
    }

    private static int draw(int from, int upTo) {
        seed = seed * 6364136223846793005L + 1442695040888963407L;
        return from + (int) ((seed >>> 33) % (upTo - from + 1));
    }

    private static void empty() {
        SlipwayYard x = new SlipwayYard();
        Due.is("errors()", 0, x::errors);
        x.slip(5);
        x.crane(5);
        x.block(1, 1, 1, 1);
        x.plate(10203);
        Due.is("errors()", 0, x::errors);
        Due.is("errors() of a text that is no net", 0, () -> {
            x.type('?');
            return x.errors();
        });
    }

    private static void manyNets() {
        for (int net = 0; net < 600; net++) {
            SlipwayYard x = new SlipwayYard();
            int works = draw(1, 16);
            int most = draw(0, 4);
            for (int work = 0; work < works; work++) {
                int time = draw(0, 60);
                x.work(time, Math.max(0, time - draw(0, most)), draw(0, 50), draw(0, 9));
                x.delay(work, draw(0, 3), draw(0, 60));
                x.delay(work, draw(0, 3), draw(0, 60));
            }
            for (int wait = draw(-1, 40); wait >= 0; wait--) {
                int one = draw(0, works - 1);
                int two = draw(0, works - 1);
                if (one > two && wait < 40) {
                    x.waits(one, two, net % 2 == 0 ? 0 : draw(0, 3), draw(0, 30));
                }
            }
            Due.is("errors() of net " + net, 0, x::errors);
        }
    }

    private static void nothingChanges() {
        SlipwayYard x = Due.net("a=5/3;b=3/1;c=2/0;d=4;a>b+2;a>c;b>d;c>d");
        x.set(0, 2, 4);
        x.set(1, 2, 3);
        x.set(2, 3, 5);
        x.delay(1, 1, 7);
        x.slip(9);
        x.stand(0, 2, 3, 4, 5);
        for (int k = 0; k < 3; k++) {
            Due.is("errors()", 0, x::errors);
            Due.is("clearText()", k == 0 ? 39 : 0, x::clearText);
            Due.is("length()", 14, x::length);
            Due.is("early(3)", 10, () -> x.early(3));
            Due.is("late(2)", 8, () -> x.late(2));
            Due.is("cost(13)", 3L, () -> x.cost(13));
            Due.is("cost(10)", 10L + 4, () -> x.cost(10));
            Due.is("lateLength(2)", 21, () -> x.lateLength(2));
            Due.is("set(1, 1, 1)", 1, () -> x.set(1, 1, 1));
            Due.is("firstStand(0, 9, 1, false)", 0, () -> x.firstStand(0, 9, 1, false));
            Due.is("firstStand(0, 9, 5, false)", 9, () -> x.firstStand(0, 9, 5, false));
        }
    }
}
