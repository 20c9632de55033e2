/** What the tests share: each compares an answer with the one that is due and counts what is wrong. */
final class Due {
    private static int wrong = 0;
    private static int asked = 0;
    private static String about = "";

    interface Call {
        Object run();
    }

    private Due() {
    }

    /** What the next calls are about: told ahead of each that is wrong. */
    static void about(String what) {
        about = what;
    }

    /** What a call answers, as a text; throws.Name if it throws. */
    static String answer(Call call) {
        try {
            return String.valueOf(call.run());
        } catch (RuntimeException e) {
            return "throws." + e.getClass().getSimpleName();
        }
    }

    static void is(String what, Object want, Call call) {
        asked++;
        String got = answer(call);
        if (!got.equals(String.valueOf(want))) {
            wrong++;
            System.out.println(about + what + " answered " + got + ", due is " + want);
        }
    }

    /** The call throws an IndexOutOfBoundsException. */
    static void index(String what, Call call) {
        is(what, "throws.IndexOutOfBoundsException", call);
    }

    /** The call throws an IllegalArgumentException. */
    static void argument(String what, Call call) {
        is(what, "throws.IllegalArgumentException", call);
    }

    /** The call throws an IllegalStateException. */
    static void state(String what, Call call) {
        is(what, "throws.IllegalStateException", call);
    }

    static void holds(String what, boolean isSo) {
        is(what, true, () -> isSo);
    }

    /** Types a text: its signs are bytes, eight in a number. */
    static void type(SlipwayYard yard, String text) {
        for (int from = 0; from < text.length(); from += 8) {
            long bytes = 0;
            for (int k = from; k < Math.min(from + 8, text.length()); k++) {
                bytes = bytes << 8 | text.charAt(k) & 255;
            }
            yard.type(bytes);
        }
    }

    /** A yard with the net of a text. */
    static SlipwayYard net(String text) {
        SlipwayYard yard = new SlipwayYard();
        type(yard, text);
        yard.read();
        return yard;
    }

    static void end() {
        System.out.println(asked + " answers asked for, " + wrong + " wrong");
        System.exit(wrong == 0 ? 0 : 1);
    }
}
