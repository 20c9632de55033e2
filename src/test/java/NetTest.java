/** Promises 7 to 12: works, what is set of them, and waits. */
public final class NetTest {
    public static void main(String[] args) {
        works();
        setting();
        settingWrong();
        waiting();
        waitingInCircles();
        fortyWaits();
        dropping();
        droppingOfManySorts();
        clearing();
        Due.end();
    }

    private static void works() {
        SlipwayYard x = new SlipwayYard();
        Due.argument("work(-1, 0, 0, 0)", () -> x.work(-1, 0, 0, 0));
        Due.argument("work(61, 0, 0, 0)", () -> x.work(61, 0, 0, 0));
        Due.argument("work(5, -1, 0, 0)", () -> x.work(5, -1, 0, 0));
        Due.argument("work(5, 6, 0, 0)", () -> x.work(5, 6, 0, 0));
        Due.argument("work(5, 5, -1, 0)", () -> x.work(5, 5, -1, 0));
        Due.argument("work(5, 5, 1001, 0)", () -> x.work(5, 5, 1001, 0));
        Due.argument("work(5, 5, 0, -1)", () -> x.work(5, 5, 0, -1));
        Due.argument("work(5, 5, 0, 10)", () -> x.work(5, 5, 0, 10));
        Due.argument("work of extremes", () -> x.work(Integer.MIN_VALUE, Integer.MIN_VALUE, 0, 0));
        Due.argument("work of extremes", () -> x.work(Integer.MAX_VALUE, 0, 0, 0));
        Due.is("works() after calls that throw", 0, x::works);
        Due.is("work(60, 0, 1000, 9)", 0, () -> x.work(60, 0, 1000, 9));
        Due.is("work(0, 0, 0, 0)", 1, () -> x.work(0, 0, 0, 0));
        Due.is("work(60, 60, 0, 0)", 2, () -> x.work(60, 60, 0, 0));
        for (int k = 3; k < 16; k++) {
            Due.is("work(1, 1, 1, 1)", k, () -> x.work(1, 1, 1, 1));
        }
        Due.is("works()", 16, x::works);
        Due.state("a 17th work", () -> x.work(1, 1, 1, 1));
        Due.argument("a 17th work out of range", () -> x.work(1, 2, 1, 1));
        Due.is("works() after", 16, x::works);
        Due.is("work 0 has its time", 60, () -> x.set(0, 0, 60));
        Due.is("work 0 has its least time", 0, () -> x.set(0, 1, 0));
        Due.is("work 0 has its price", 1000, () -> x.set(0, 2, 1000));
        Due.is("work 0 has its means", 9, () -> x.set(0, 3, 9));
    }

    private static void setting() {
        SlipwayYard x = new SlipwayYard();
        x.work(5, 3, 10, 2);
        x.work(7, 7, 20, 4);
        Due.is("set(0, 0, 60)", 5, () -> x.set(0, 0, 60));
        Due.is("length()", 60, x::length);
        Due.is("set(0, 0, 3), the least time", 60, () -> x.set(0, 0, 3));
        Due.is("length()", 7, x::length);
        Due.is("set(0, 1, 0)", 3, () -> x.set(0, 1, 0));
        Due.is("set(0, 1, 3), the time", 0, () -> x.set(0, 1, 3));
        Due.is("set(0, 1, 1)", 3, () -> x.set(0, 1, 1));
        Due.is("set(0, 0, 1)", 3, () -> x.set(0, 0, 1));
        Due.is("set(0, 2, 0)", 10, () -> x.set(0, 2, 0));
        Due.is("set(0, 2, 1000)", 0, () -> x.set(0, 2, 1000));
        Due.is("set(0, 3, 0)", 2, () -> x.set(0, 3, 0));
        Due.is("set(0, 3, 9)", 0, () -> x.set(0, 3, 9));
        Due.is("peak()", 13, x::peak);
        Due.is("set(1, 0, 7)", 7, () -> x.set(1, 0, 7));
        Due.is("set(1, 1, 7)", 7, () -> x.set(1, 1, 7));
        Due.is("set(1, 2, 20)", 20, () -> x.set(1, 2, 20));
        Due.is("set(1, 3, 4)", 4, () -> x.set(1, 3, 4));
    }

    private static void settingWrong() {
        SlipwayYard x = new SlipwayYard();
        Due.index("set without works", () -> x.set(0, 0, 0));
        x.work(5, 3, 10, 2);
        Due.index("set(-1, 0, 5)", () -> x.set(-1, 0, 5));
        Due.index("set(1, 0, 5)", () -> x.set(1, 0, 5));
        Due.index("set(1, 4, 99), the work is looked at first", () -> x.set(1, 4, 99));
        Due.index("set(Integer.MIN_VALUE, 0, 5)", () -> x.set(Integer.MIN_VALUE, 0, 5));
        Due.argument("set(0, -1, 5)", () -> x.set(0, -1, 5));
        Due.argument("set(0, 4, 5)", () -> x.set(0, 4, 5));
        Due.argument("set(0, 0, 2), below the least time", () -> x.set(0, 0, 2));
        Due.argument("set(0, 0, 61)", () -> x.set(0, 0, 61));
        Due.argument("set(0, 1, -1)", () -> x.set(0, 1, -1));
        Due.argument("set(0, 1, 6), above the time", () -> x.set(0, 1, 6));
        Due.argument("set(0, 2, -1)", () -> x.set(0, 2, -1));
        Due.argument("set(0, 2, 1001)", () -> x.set(0, 2, 1001));
        Due.argument("set(0, 3, -1)", () -> x.set(0, 3, -1));
        Due.argument("set(0, 3, 10)", () -> x.set(0, 3, 10));
        Due.is("the time stays", 5, () -> x.set(0, 0, 5));
        Due.is("the least time stays", 3, () -> x.set(0, 1, 3));
        Due.is("the price stays", 10, () -> x.set(0, 2, 10));
        Due.is("the means stay", 2, () -> x.set(0, 3, 2));
    }

    private static void waiting() {
        SlipwayYard x = new SlipwayYard();
        Due.index("waits without works", () -> x.waits(0, 0, 0, 0));
        x.work(5, 5, 0, 0);
        x.work(2, 2, 0, 0);
        Due.index("waits(2, 0, 0, 0)", () -> x.waits(2, 0, 0, 0));
        Due.index("waits(0, 2, 0, 0)", () -> x.waits(0, 2, 0, 0));
        Due.index("waits(-1, 0, 0, 0)", () -> x.waits(-1, 0, 0, 0));
        Due.index("waits(0, -1, 9, 99)", () -> x.waits(0, -1, 9, 99));
        Due.argument("waits(1, 0, -1, 0)", () -> x.waits(1, 0, -1, 0));
        Due.argument("waits(1, 0, 4, 0)", () -> x.waits(1, 0, 4, 0));
        Due.argument("waits(1, 0, 0, -1)", () -> x.waits(1, 0, 0, -1));
        Due.argument("waits(1, 0, 0, 31)", () -> x.waits(1, 0, 0, 31));
        Due.argument("waits(0, 0, 0, 31)", () -> x.waits(0, 0, 0, 31));
        Due.is("no wait came of it", 0, () -> x.early(1));
        Due.is("BEGINS_ENDS, 9", 1, () -> x.waits(1, 0, SlipwayYard.BEGINS_ENDS, 9));
        Due.is("early(1): it ends 9 behind the beginning", 7, () -> x.early(1));
        Due.is("BEGINS_BEGINS, 8", 2, () -> x.waits(1, 0, SlipwayYard.BEGINS_BEGINS, 8));
        Due.is("early(1): it begins 8 behind the beginning", 8, () -> x.early(1));
        Due.is("ENDS_ENDS, 6", 3, () -> x.waits(1, 0, SlipwayYard.ENDS_ENDS, 6));
        Due.is("early(1): it ends 6 behind the end", 9, () -> x.early(1));
        Due.is("ENDS_BEGINS, 5", 4, () -> x.waits(1, 0, SlipwayYard.ENDS_BEGINS, 5));
        Due.is("early(1): it begins 5 behind the end", 10, () -> x.early(1));
        Due.is("the greatest lag", 5, () -> x.waits(1, 0, SlipwayYard.ENDS_BEGINS, 30));
        Due.is("early(1)", 35, () -> x.early(1));
    }

    private static void waitingInCircles() {
        SlipwayYard x = new SlipwayYard();
        for (int k = 0; k < 4; k++) {
            x.work(1, 1, 0, 0);
        }
        for (int sort = 0; sort < 4; sort++) {
            int its = sort;
            Due.state("a work waits for itself", () -> x.waits(2, 2, its, 0));
        }
        Due.is("waits(1, 0)", 1, () -> x.waits(1, 0, 0, 0));
        Due.state("back", () -> x.waits(0, 1, 3, 0));
        Due.is("waits(3, 2)", 2, () -> x.waits(3, 2, 1, 0));
        Due.is("waits(2, 1), between two rows", 3, () -> x.waits(2, 1, 2, 0));
        Due.state("waits(0, 3)", () -> x.waits(0, 3, 0, 0));
        Due.state("waits(1, 3)", () -> x.waits(1, 3, 0, 0));
        Due.state("waits(0, 2)", () -> x.waits(0, 2, 0, 0));
        Due.is("waits(3, 0)", 4, () -> x.waits(3, 0, 3, 0));
        Due.is("drop(2)", 3, () -> x.drop(2));
        Due.state("waits(0, 3)", () -> x.waits(0, 3, 0, 0));
        Due.is("waits(1, 3)", 4, () -> x.waits(1, 3, 0, 0));
        Due.state("waits(2, 1)", () -> x.waits(2, 1, 0, 0));
        Due.is("errors()", 0, x::errors);
    }

    private static void fortyWaits() {
        SlipwayYard x = new SlipwayYard();
        x.work(1, 1, 0, 0);
        x.work(1, 1, 0, 0);
        for (int k = 1; k <= 40; k++) {
            Due.is("waits(1, 0)", k, () -> x.waits(1, 0, 0, 0));
        }
        Due.state("a 41st wait", () -> x.waits(1, 0, 0, 9));
        Due.argument("a 41st wait out of range", () -> x.waits(1, 0, 0, 31));
        Due.index("a 41st wait of no work", () -> x.waits(1, 2, 0, 31));
        Due.is("early(1)", 1, () -> x.early(1));
        Due.is("rows()", 40L, x::rows);
        Due.is("drop(39)", 39, () -> x.drop(39));
        Due.is("waits(1, 0)", 40, () -> x.waits(1, 0, 0, 9));
        Due.is("early(1)", 10, () -> x.early(1));
    }

    private static void dropping() {
        SlipwayYard x = new SlipwayYard();
        Due.index("drop without waits", () -> x.drop(0));
        x.work(5, 5, 0, 0);
        x.work(5, 5, 0, 0);
        Due.index("drop(0) without waits", () -> x.drop(0));
        for (int lag = 10; lag <= 14; lag++) {
            x.waits(1, 0, 0, lag);
        }
        Due.index("drop(5)", () -> x.drop(5));
        Due.index("drop(-1)", () -> x.drop(-1));
        Due.index("drop(Integer.MAX_VALUE)", () -> x.drop(Integer.MAX_VALUE));
        Due.is("early(1)", 19, () -> x.early(1));
        Due.is("drop(3), the lag 13", 4, () -> x.drop(3));
        Due.is("early(1)", 19, () -> x.early(1));
        Due.is("drop(3), the lag 14", 3, () -> x.drop(3));
        Due.is("early(1)", 17, () -> x.early(1));
        Due.is("drop(0), the lag 10", 2, () -> x.drop(0));
        Due.is("drop(1), the lag 12", 1, () -> x.drop(1));
        Due.is("early(1)", 16, () -> x.early(1));
        Due.index("drop(1)", () -> x.drop(1));
        Due.is("drop(0)", 0, () -> x.drop(0));
        Due.is("early(1)", 0, () -> x.early(1));
        Due.is("works() stay", 2, x::works);
        Due.is("the other way round now", 1, () -> x.waits(0, 1, 0, 0));
    }

    private static void droppingOfManySorts() {
        // the wait that goes stands ahead of those of other works, sorts and lags
        SlipwayYard x = Due.net("a=5;b=7;c=2;d=3;a>b;b^c+4;a_d+6;c<d+9");
        Due.is("early(1)", 5, () -> x.early(1));
        Due.is("drop(0)", 3, () -> x.drop(0));
        Due.is("early(1)", 0, () -> x.early(1));
        Due.is("early(2)", 4, () -> x.early(2));
        Due.is("early(3)", 10, () -> x.early(3));
        Due.state("c waits for b still", () -> x.waits(1, 2, 0, 0));
        Due.state("d waits for a still", () -> x.waits(0, 3, 0, 0));
        Due.state("d waits for b still, through c", () -> x.waits(1, 3, 0, 0));
        Due.is("drop(0)", 2, () -> x.drop(0));
        Due.is("early(2)", 0, () -> x.early(2));
        Due.is("early(3)", 8, () -> x.early(3));
        Due.is("drop(0)", 1, () -> x.drop(0));
        Due.is("early(3)", 6, () -> x.early(3));
        Due.is("a may wait for d now", 2, () -> x.waits(0, 3, 0, 0));
        Due.is("early(0)", 9, () -> x.early(0));
        Due.is("errors()", 0, x::errors);
        // waits that are made from the back of a row to its front
        SlipwayYard y = Due.net("a=5;b=7;c=2;d=3;c>d+1;b>c+2;a>b+3");
        Due.is("early(3)", 20, () -> y.early(3));
        Due.is("drop(0)", 2, () -> y.drop(0));
        Due.is("early(1)", 8, () -> y.early(1));
        Due.is("early(2)", 17, () -> y.early(2));
        Due.is("early(3)", 0, () -> y.early(3));
        Due.is("drop(1)", 1, () -> y.drop(1));
        Due.is("early(2)", 9, () -> y.early(2));
    }

    private static void clearing() {
        SlipwayYard x = new SlipwayYard();
        Due.is("clearNet() of none", 0, x::clearNet);
        Due.type(x, "a=1");
        x.work(5, 2, 10, 3);
        x.work(5, 2, 10, 3);
        x.waits(1, 0, 0, 7);
        x.delay(1, 2, 30);
        x.delay(0, 0, 30);
        x.block(1, 1, 1, 1);
        Due.is("clearNet()", 2, x::clearNet);
        Due.is("works()", 0, x::works);
        Due.index("early(0)", () -> x.early(0));
        Due.index("drop(0)", () -> x.drop(0));
        Due.is("length()", 0, x::length);
        Due.is("lateLength(15)", 0, () -> x.lateLength(15));
        Due.is("work()", 0, () -> x.work(5, 2, 10, 3));
        Due.is("work()", 1, () -> x.work(5, 2, 10, 3));
        Due.is("no delays", 5, () -> x.lateLength(15));
        Due.is("no delay", 0, () -> x.delay(1, 2, 0));
        Due.is("no waits", 0, () -> x.early(1));
        Due.is("waits the other way round", 1, () -> x.waits(0, 1, 0, 0));
        Due.is("the text stays", 3, x::clearText);
        Due.is("the block stays", true, () -> x.put(0, 0, 0, 0));
    }
}
