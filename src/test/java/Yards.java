/** Yards that the tests of boundary sentences begin with. */
final class Yards {
    private Yards() {
    }

    static SlipwayYard empty() {
        return new SlipwayYard();
    }

    /** Something of all, nothing full: 5 works, 4 waits, 3 plates, 3 blocks, 2 slips, 2 cranes. */
    static SlipwayYard busy() {
        SlipwayYard x = new SlipwayYard();
        Due.type(x, "a=3;b=4/1;a>b+2");
        x.work(5, 2, 10, 2);
        x.work(4, 1, 3, 2);
        x.work(6, 6, 0, 1);
        x.work(0, 0, 1, 9);
        x.work(3, 0, 7, 3);
        x.waits(1, 0, SlipwayYard.ENDS_BEGINS, 1);
        x.waits(2, 0, SlipwayYard.BEGINS_BEGINS, 3);
        x.waits(4, 2, SlipwayYard.ENDS_ENDS, 0);
        x.waits(3, 1, SlipwayYard.BEGINS_ENDS, 5);
        x.delay(0, 0, 4);
        x.delay(2, 1, 60);
        x.delay(4, 3, 1);
        days(x);
        cargo(x);
        rail(x);
        return x;
    }

    private static void days(SlipwayYard x) {
        x.rest(5);
        x.rest(6);
        x.free(0);
        x.free(9);
        x.free(400);
    }

    private static void cargo(SlipwayYard x) {
        x.plate(10203);
        x.plate(10402);
        x.plate(20403);
        x.block(2, 3, 1, 5);
        x.block(1, 1, 1, 99);
        x.block(4, 4, 4, 1);
        x.put(0, 10, 10, 10);
        x.put(1, 99, 99, 99);
        x.put(2, 0, 0, 0);
        x.takeAway(2);
    }

    private static void rail(SlipwayYard x) {
        x.slip(10);
        x.slip(4);
        x.stand(0, 2, 3, 0, 5);
        x.stand(0, 0, 10, 7, 100);
        x.crane(50);
        x.crane(9);
        x.lift(0, 10, 40, 50);
        x.lift(0, 12, 45, 1);
        x.lift(1, 10, 41, 9);
    }

    /** 16 works in a row and 40 waits, and a text of 200 bytes. */
    static SlipwayYard fullNet() {
        SlipwayYard x = new SlipwayYard();
        for (int work = 0; work < 16; work++) {
            x.work(5, 5, 0, 1);
        }
        for (int wait = 0; wait < 40; wait++) {
            int work = wait % 15 + 1;
            x.waits(work, work - 1, SlipwayYard.ENDS_BEGINS, wait / 20);
        }
        for (int k = 0; k < 24; k++) {
            x.type(0x2020202020202020L);
        }
        Due.type(x, "a=12 / 3");
        return x;
    }

    /** 20 plates, 20 blocks, 3 slips, the first one with 20 stands, 4 cranes, the first one with 30 lifts. */
    static SlipwayYard fullYard() {
        SlipwayYard x = new SlipwayYard();
        for (int k = 0; k < 20; k++) {
            x.plate(10203 + k);
            x.block(1, 1, 1, 1 + k);
            if (k < 10) {
                x.put(k, 2 * k, 0, 0);
            }
        }
        for (int slip = 0; slip < 3; slip++) {
            x.slip(20);
        }
        for (int k = 0; k < 20; k++) {
            x.stand(0, k, 1, k, 5);
        }
        for (int crane = 0; crane < 4; crane++) {
            x.crane(50);
        }
        for (int day = 0; day < 30; day++) {
            x.lift(0, day, 20, 1);
        }
        return x;
    }

    /** All weekdays but the weekday 3 are days of rest. */
    static SlipwayYard oneWorkDay() {
        SlipwayYard x = busy();
        x.rest(0);
        x.rest(1);
        x.rest(2);
        x.rest(4);
        return x;
    }
}
