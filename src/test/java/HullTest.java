/** Promises 26 to 28: plates, open edges, and whether the hull is closed. */
public final class HullTest {
    public static void main(String[] args) {
        plates();
        noPlates();
        twentyPlates();
        tetrahedron();
        twoSides();
        wrongSide();
        doubledHull();
        Due.end();
    }

    private static void plates() {
        SlipwayYard x = new SlipwayYard();
        Due.is("plate(10203)", 0, () -> x.plate(10203));
        Due.is("plate(302928)", 1, () -> x.plate(302928));
        Due.is("plate(102030405), five corners", 2, () -> x.plate(102030405));
        Due.is("plate(302928272625L), six corners", 3, () -> x.plate(302928272625L));
        Due.is("plate(1000203), corner 0 within", 4, () -> x.plate(1000203));
        Due.is("plate(10200), corner 0 last", 5, () -> x.plate(10200));
        Due.is("plate(102030040500L), corner 0 last of six", 6, () -> x.plate(102030040500L));
        noPlate(x, 0);
        noPlate(x, -1);
        noPlate(x, -10203);
        noPlate(x, Long.MIN_VALUE);
        noPlate(x, Long.MAX_VALUE);
        noPlate(x, 7);
        noPlate(x, 102);
        noPlate(x, 203);
        noPlate(x, 1020304050607L);
        noPlate(x, 10231);
        noPlate(x, 310203);
        noPlate(x, 990102);
        noPlate(x, 10201);
        noPlate(x, 10202);
        noPlate(x, 10102);
        noPlate(x, 102030041000L);
        noPlate(x, 302928272630L);
        Due.is("the next plate", 7, () -> x.plate(10203));
    }

    private static void noPlate(SlipwayYard x, long corners) {
        Due.argument("plate(" + corners + ")", () -> x.plate(corners));
    }

    private static void noPlates() {
        SlipwayYard x = new SlipwayYard();
        Due.is("openEdges()", 0, x::openEdges);
        Due.is("isClosed()", false, x::isClosed);
    }

    private static void twentyPlates() {
        SlipwayYard x = new SlipwayYard();
        for (int k = 0; k < 20; k++) {
            int its = k;
            Due.is("plate()", k, () -> x.plate(10203 + its % 10));
        }
        int open = x.openEdges();
        Due.state("a 21st plate", () -> x.plate(302928));
        Due.argument("a 21st plate of no corners", () -> x.plate(102));
        Due.is("openEdges()", open, x::openEdges);
    }

    private static void tetrahedron() {
        SlipwayYard x = new SlipwayYard();
        x.plate(10203);
        Due.is("openEdges()", 3, x::openEdges);
        x.plate(10402);
        Due.is("openEdges()", 4, x::openEdges);
        x.plate(20403);
        Due.is("openEdges()", 3, x::openEdges);
        Due.is("isClosed()", false, x::isClosed);
        x.plate(30401);
        Due.is("openEdges()", 0, x::openEdges);
        Due.is("isClosed()", true, x::isClosed);
        // a hull beside it, of its own
        x.plate(101112);
        Due.is("openEdges()", 3, x::openEdges);
        x.plate(121110);
        Due.is("isClosed()", true, x::isClosed);
    }

    private static void twoSides() {
        SlipwayYard x = new SlipwayYard();
        x.plate(302928272625L);
        Due.is("openEdges()", 6, x::openEdges);
        x.plate(252627282930L);
        Due.is("openEdges()", 0, x::openEdges);
        Due.is("isClosed()", true, x::isClosed);
    }

    private static void wrongSide() {
        // the same ring twice: each edge is one of two plates in the same direction
        SlipwayYard x = new SlipwayYard();
        x.plate(10203);
        x.plate(20301);
        Due.is("openEdges()", 6, x::openEdges);
        Due.is("isClosed()", false, x::isClosed);
        // the other direction once: its edges are met by two, and theirs by one, but they are two
        x.plate(30201);
        Due.is("openEdges()", 9, x::openEdges);
    }

    private static void doubledHull() {
        // two and two: each edge has two in the other direction and another one in the same
        SlipwayYard x = new SlipwayYard();
        x.plate(10203);
        x.plate(30201);
        x.plate(10203);
        x.plate(30201);
        Due.is("openEdges()", 12, x::openEdges);
        Due.is("isClosed()", false, x::isClosed);
        // one edge only is in common with a third plate
        SlipwayYard y = new SlipwayYard();
        y.plate(10203);
        y.plate(30201);
        y.plate(10204);
        Due.is("openEdges(): 1 2 twice, 2 1, 2 4, 4 1", 5, y::openEdges);
    }
}
