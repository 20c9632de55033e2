/** All that can be seen of a yard, as one text; the yard is used up by it, with less than 390 calls. */
final class Witness {
    private final SlipwayYard yard;
    private final StringBuilder seen = new StringBuilder();
    private int works;

    private Witness(SlipwayYard yard) {
        this.yard = yard;
    }

    static String of(SlipwayYard yard) {
        Witness witness = new Witness(yard);
        witness.seeText();
        witness.seePlan();
        witness.seeDays();
        witness.seeHull();
        witness.seeBlocks();
        witness.seeSlips();
        witness.seeCranes();
        witness.seeWorks();
        witness.seeWaits();
        witness.seeNetOfText();
        return witness.seen.toString();
    }

    private void see(String what, Due.Call call) {
        seen.append(what).append(' ').append(Due.answer(call)).append('\n');
    }

    private void seeText() {
        see("length of the text", () -> yard.type(0));
        see("errorKind", yard::errorKind);
        see("errorPlace", yard::errorPlace);
    }

    private void seePlan() {
        works = yard.works();
        see("works", yard::works);
        see("length", yard::length);
        for (int work = 0; work < works; work++) {
            int its = work;
            see("early " + work, () -> yard.early(its));
            see("late " + work, () -> yard.late(its));
            see("rowAt " + work, () -> yard.rowAt(its));
        }
        see("rows", yard::rows);
        see("rowAt(NONE)", () -> yard.rowAt(SlipwayYard.NONE));
        see("cost", () -> yard.cost(Math.max(0, yard.length() - 1)));
        see("shortest", yard::shortest);
        see("peak", yard::peak);
        see("leastPeak", yard::leastPeak);
        see("meanPlay", yard::meanPlay);
        see("errors", yard::errors);
    }

    private void seeDays() {
        int[] numbers = {0, 7, 200, 285, 397, 398, 2000};
        for (int number : numbers) {
            see("dayOf " + number, () -> yard.dayOf(number));
        }
        for (int weekday = 0; weekday < 7; weekday++) {
            int its = weekday;
            see("rest " + weekday, () -> yard.rest(its));
        }
        int[] days = {0, 1, 399, 400};
        for (int day : days) {
            see("free " + day, () -> yard.free(day));
        }
    }

    private void seeHull() {
        see("openEdges", yard::openEdges);
        see("isClosed", yard::isClosed);
        see("the next plate", () -> yard.plate(10203));
    }

    private void seeBlocks() {
        see("weight", yard::weight);
        see("trim", () -> yard.trim(7));
        see("putShare", yard::putShare);
        for (int direction = 0; direction < 3; direction++) {
            int its = direction;
            see("middle " + direction, () -> yard.middle(its, false));
            see("below the line " + direction, () -> yard.middle(its, true));
        }
        see("the next block", () -> yard.block(1, 1, 1, 1));
        for (int block = 0; block < 20; block++) {
            int its = block;
            see("takeAway " + block, () -> yard.takeAway(its));
        }
    }

    private void seeSlips() {
        for (int slip = 0; slip < 3; slip++) {
            int its = slip;
            see("firstStand day " + slip, () -> yard.firstStand(its, 2, 3, false));
            see("firstStand place " + slip, () -> yard.firstStand(its, 2, 3, true));
            see("firstStand day " + slip, () -> yard.firstStand(its, 1, 100, false));
            see("stand " + slip, () -> yard.stand(its, 0, 1, 400, 1));
            see("stand " + slip, () -> yard.stand(its, 0, 1, 0, 1));
        }
        see("the next slip", () -> yard.slip(1));
    }

    private void seeCranes() {
        for (int crane = 0; crane < 4; crane++) {
            int its = crane;
            see("nextLift " + crane, () -> yard.nextLift(its, 0, 50, 1));
            see("nextLift " + crane, () -> yard.nextLift(its, 0, 3, 9));
            see("nextLift " + crane, () -> yard.nextLift(its, 390, 99, 100000));
            see("lift " + crane, () -> yard.lift(its, 400, 40 + its, 1));
        }
        see("the next crane", () -> yard.crane(1));
    }

    private void seeWorks() {
        for (int causers = 1; causers <= 8; causers *= 2) {
            int its = causers;
            see("lateLength " + causers, () -> yard.lateLength(its));
        }
        for (int work = 0; work < works; work++) {
            int its = work;
            for (int causer = 0; causer < 4; causer++) {
                int number = causer;
                see("delay " + work + " " + causer, () -> yard.delay(its, number, 0));
            }
            see("price " + work, () -> yard.set(its, 2, 0));
            see("means " + work, () -> yard.set(its, 3, 0));
            see("time " + work, () -> yard.set(its, 0, 60));
            see("least time " + work, () -> yard.set(its, 1, 0));
        }
    }

    /** The waits, one by one from the front, by what the length is without them. */
    private void seeWaits() {
        int waits = 1;
        for (int k = 0; k < 41 && waits > 0; k++) {
            see("length", yard::length);
            String answer = Due.answer(() -> yard.drop(0));
            seen.append("drop ").append(answer).append('\n');
            waits = answer.startsWith("throws") ? 0 : Integer.parseInt(answer);
        }
    }

    private void seeNetOfText() {
        see("read", yard::read);
        see("length of the text's net", yard::length);
        see("rows of the text's net", yard::rows);
        see("clearText", yard::clearText);
    }
}
