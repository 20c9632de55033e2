/** Section 5, hulls, and promises 26 to 28. */
final class HullBounds {
    private static final String PART = "Section 5";

    private HullBounds() {
    }

    static void all() {
        terms();
        plate();
        openEdges();
        isClosed();
    }

    private static Bounds.Recipe hull(long... plates) {
        return () -> {
            SlipwayYard x = new SlipwayYard();
            for (long corners : plates) {
                x.plate(corners);
            }
            return x;
        };
    }

    /** So many plates, of which no two have an edge in common, in either direction. */
    private static Bounds.Recipe apart(int plates) {
        return () -> {
            SlipwayYard x = new SlipwayYard();
            for (int k = 0; k < plates; k++) {
                // edges lead 1 and 2 ahead and 3 back
                x.plate(10000L * (1 + k) + 100 * (2 + k) + 4 + k);
            }
            return x;
        };
    }

    private static void refused(long corners) {
        Bounds.refuses("plate(" + corners + ")", Bounds.ARGUMENT, Yards::busy, x -> x.plate(corners));
    }

    private static void taken(long corners, int edges) {
        Bounds.answers("plate(" + corners + ")", "0 " + edges, Yards::empty, x -> x.plate(corners) + " " + x.openEdges());
    }

    private static void terms() {
        Bounds.of(PART, "A hull has at most 20 plates", () -> {
            Bounds.answers("the 20th plate", "19 60", apart(19), x -> x.plate(10300) + " " + x.openEdges());
            Bounds.refuses("a 21st plate", Bounds.STATE, apart(20), x -> x.plate(10300));
        });
        Bounds.of(PART, "each a ring of 3 to 6 corners", () -> {
            refused(1);
            refused(30);
            refused(102);
            refused(3029);
            taken(10203, 3);
            taken(302928, 3);
            taken(1020304, 4);
            taken(102030405, 5);
            taken(10203040506L, 6);
            taken(302928272625L, 6);
            refused(1020304050607L);
            refused(30292827262524L);
        });
        Bounds.of(PART, "numbers from 0 to 30", () -> {
            taken(10002, 3);
            taken(10200, 3);
            taken(300001, 3);
            taken(13000, 3);
            taken(10230, 3);
            refused(310102);
            refused(13102);
            refused(10231);
            refused(990102);
            refused(10299);
            refused(203);
            refused(313233);
            refused(102030431L);
        });
        Bounds.of(PART, "none of them twice", () -> {
            refused(10102);
            refused(10201);
            refused(10202);
            refused(303029);
            refused(302930);
            refused(10000);
            refused(1020103);
            refused(102030402L);
            refused(10203040501L);
            refused(302928272630L);
            refused(302928272626L);
        });
        Bounds.of(PART, "Its edges lead from each corner to the next one, and from the last one to the first one", () -> {
            // each of these closes one edge of the ring 1 2 3 4 5 6, the last one that from 6 to 1
            for (int from = 1; from <= 6; from++) {
                long corners = 10000L * (from % 6 + 1) + 100 * from + 20;
                Bounds.answers("one edge met by plate(" + corners + ")", "1 7", hull(10203040506L),
                    x -> x.plate(corners) + " " + x.openEdges());
            }
            Bounds.answers("no edge between 1 and 3", "1 9", hull(10203040506L), x -> x.plate(30120) + " " + x.openEdges());
        });
        Bounds.of(PART, "The hull is closed if it has a plate", () -> {
            Bounds.answers("without plates", false, Yards::empty, SlipwayYard::isClosed);
            Bounds.answers("with one", false, hull(10203), SlipwayYard::isClosed);
            Bounds.answers("with two", true, hull(10203, 30201), SlipwayYard::isClosed);
        });
        Bounds.of(PART, "each edge of a plate is an edge of just one plate in the other direction", () -> {
            Bounds.answers("of none", false, hull(10203, 10402, 20403), SlipwayYard::isClosed);
            Bounds.answers("of one", true, hull(10203, 10402, 20403, 30401), SlipwayYard::isClosed);
            Bounds.answers("of two", false, hull(10203, 10402, 20403, 30401, 10205), SlipwayYard::isClosed);
        });
        Bounds.of(PART, "and of no other plate in the same one", () -> Bounds.answers("a hull twice", false,
            hull(10203, 30201, 10203, 30201), SlipwayYard::isClosed));
    }

    private static void plate() {
        String part = "Promise 26";
        Bounds.of(part, "its corners are the digits of a number, two for each, from the front on", () -> {
            // 10 20 30 in this direction: 20 10 is met, 10 20 is not
            Bounds.answers("plate(102030)", "1 4", hull(201005), x -> x.plate(102030) + " " + x.openEdges());
            Bounds.answers("plate(102030)", "1 6", hull(102005), x -> x.plate(102030) + " " + x.openEdges());
        });
        Bounds.of(part, "so 10203 has the corners 1, 2 and 3 (an odd number of digits has a 0 ahead)", () -> {
            Bounds.answers("plate(10203)", "1 0", hull(30201), x -> x.plate(10203) + " " + x.openEdges());
            Bounds.answers("plate(9080706), 7 digits", "1 0", hull(6070809), x -> x.plate(9080706) + " " + x.openEdges());
            // corner 0 cannot be the first one: no digit tells it there
            refused(102);
            Bounds.answers("plate(10200), corner 0 behind", "1 0", hull(10002), x -> x.plate(10200) + " " + x.openEdges());
        });
        Bounds.of(part, "`corners`: the number, above 0", () -> {
            refused(0);
            refused(-1);
            refused(-10203);
            refused(-302928272625L);
            refused(Long.MIN_VALUE);
            refused(Long.MIN_VALUE + 10203);
            refused(Long.MAX_VALUE);
            refused(Integer.MAX_VALUE);
            refused(Integer.MIN_VALUE);
            refused(1);
            // the low digits alone would be corners
            refused(100000000010203L);
            refused(90000000000010203L);
            refused(10203L << 32);
            taken(302928272625L, 6);
        });
        Bounds.of(part, "Returns the number of the plate", () -> {
            Bounds.answers("the first plate", 0, Yards::empty, x -> x.plate(10203));
            Bounds.answers("the same plate once more", 1, hull(10203), x -> x.plate(10203));
            Bounds.answers("the 20th plate", 19, apart(19), x -> x.plate(10203));
        });
        Bounds.of(part, "Throws `IllegalArgumentException` if corners are none of a plate, or the number is not above 0", () -> {
            long[] wrong = {0, -10203, 102, 10201, 10231, 1020304050607L, Long.MAX_VALUE, Long.MIN_VALUE};
            for (long corners : wrong) {
                refused(corners);
                Bounds.refuses("a 21st plate(" + corners + ")", Bounds.ARGUMENT, apart(20), x -> x.plate(corners));
            }
        });
        Bounds.of(part, "Throws `IllegalStateException` if there are 20", () -> {
            Bounds.refuses("plate(10203)", Bounds.STATE, apart(20), x -> x.plate(10203));
            Bounds.refuses("plate(302928272625)", Bounds.STATE, Yards::fullYard, x -> x.plate(302928272625L));
        });
    }

    private static void openEdges() {
        String part = "Promise 27";
        Bounds.of(part, "those which are not an edge of just one plate in the other direction", () -> {
            Bounds.answers("of none", 3, hull(10203), SlipwayYard::openEdges);
            Bounds.answers("of one", 0, hull(10203, 30201), SlipwayYard::openEdges);
            // 1 2 is met twice by 2 1, which is one of two; the others are met by none
            Bounds.answers("of two", 3 * 3, hull(10203, 20104, 20105), SlipwayYard::openEdges);
        });
        Bounds.of(part, "and those which are an edge of two plates or more in the same one", () -> {
            // 1 2 is met by 2 1 alone, but it is an edge of two
            Bounds.answers("of two", 9, hull(10203, 10204, 20105), SlipwayYard::openEdges);
            Bounds.answers("of three", 12, hull(10203, 10204, 10205, 20106), SlipwayYard::openEdges);
        });
        Bounds.of(part, "each once for each plate", () -> {
            // neither reason counts an edge twice
            Bounds.answers("the same plate twice", 6, hull(10203, 10203), SlipwayYard::openEdges);
            Bounds.answers("two and two", 12, hull(10203, 30201, 10203, 30201), SlipwayYard::openEdges);
        });
        Bounds.of(part, "Returns how many there are", () -> {
            Bounds.answers("without plates", 0, Yards::empty, SlipwayYard::openEdges);
            Bounds.answers("the greatest number", 120, HullBounds::mostEdges, SlipwayYard::openEdges);
        });
    }

    private static SlipwayYard mostEdges() {
        SlipwayYard x = new SlipwayYard();
        for (int k = 0; k < 20; k++) {
            x.plate(302928272625L);
        }
        return x;
    }

    private static void isClosed() {
        Bounds.none("Promise 28", "Tells whether the hull is closed");
        Bounds.of("Promise 28", "Returns whether it is", () -> {
            Bounds.answers("without plates", false, Yards::empty, SlipwayYard::isClosed);
            Bounds.answers("with 20 that are open", false, apart(20), SlipwayYard::isClosed);
            Bounds.answers("with 20 that are closed", true, () -> pairs(20), SlipwayYard::isClosed);
            Bounds.answers("with 19, one less", false, () -> pairs(19), SlipwayYard::isClosed);
        });
    }

    /** So many plates, each second one the other side of the one ahead. */
    private static SlipwayYard pairs(int plates) {
        SlipwayYard x = new SlipwayYard();
        for (int k = 0; k < plates; k++) {
            int corner = k / 2 * 3;
            x.plate(k % 2 == 0 ? 10000L * (corner + 1) + 100 * (corner + 2) + corner
                : 10000L * (corner + 2) + 100 * (corner + 1) + corner);
        }
        return x;
    }
}
