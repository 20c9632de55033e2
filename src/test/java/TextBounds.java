/** Section 3 and promises 1 to 6: texts and their errors. */
final class TextBounds {
    private static final String PART = "Section 3";
    private static final String BLANKS = " ".repeat(200);
    private static final String FIFTEEN = "a=1;b=1;c=1;d=1;e=1;f=1;g=1;h=1;i=1;j=1;k=1;l=1;m=1;n=1;o=1";

    private TextBounds() {
    }

    static void all() {
        signs();
        works();
        waits();
        numbers();
        places();
        kinds();
        newYard();
        typing();
        errors();
        reading();
    }

    /** The error of a text; with kind 0 it has none. */
    private static void text(String text, int kind, int place) {
        SlipwayYard x = new SlipwayYard();
        Due.type(x, text);
        Due.is("length of '" + text + "'", text.length(), () -> x.type(0));
        Due.is("errorKind() of '" + text + "'", kind, x::errorKind);
        Due.is("errorPlace() of '" + text + "'", kind == 0 ? SlipwayYard.NONE : place, x::errorPlace);
        if (kind != 0) {
            Due.state("read() of '" + text + "'", x::read);
        } else {
            String read = Due.answer(x::read);
            Due.is("works() behind read() of '" + text + "'", read, x::works);
        }
    }

    private static void fine(String text) {
        text(text, 0, -1);
    }

    private static void signs() {
        Bounds.of(PART, "bytes from 1 to 255", () -> {
            Bounds.answers("type(1)", 1, Yards::empty, x -> x.type(1));
            Bounds.answers("type(255)", 1, Yards::empty, x -> x.type(255));
            Bounds.answers("type(0), no byte", 0, Yards::empty, x -> x.type(0));
            Bounds.answers("type(256), the byte 1", 1, Yards::empty, x -> x.type(256));
            Bounds.answers("type(128)", 1, Yards::empty, x -> x.type(128));
            text("\u0001", 1, 0);
            text("a=1\u0001", 1, 3);
            text("\u007f", 1, 0);
            text("a=1\u0080", 1, 3);
            text("a=1\u00ff", 1, 3);
            // 256 and more than a sign that could stand there are no signs
            text("\u00e1=1", 1, 0);
            text("a\u00bd1", 1, 1);
        });
        Bounds.of(PART, "at most 200) can be a net", () -> {
            fine(BLANKS.substring(0, 197) + "a=1");
            text(BLANKS, 1, 200);
            fine("a=" + "0".repeat(197) + "7");
            text(BLANKS.substring(0, 199) + "a", 1, 200);
        });
        Bounds.of(PART, "clauses, with ; between two", () -> {
            text("", 1, 0);
            text(";", 1, 0);
            text(";a=1", 1, 0);
            text("a=1;", 1, 4);
            text("a=1;;b=1", 1, 4);
            text("a=1 b=1", 1, 4);
            text("a=1b=1", 1, 3);
            fine("a=1");
            fine("a=1;b=1");
        });
        Bounds.of(PART, "blanks (32) can stand ahead of, between and behind signs", () -> {
            fine("  a  =  1  /  1  ;  b  =  1  ;  a  >  b  +  3  ;  a  ^  b  ");
            text("a\t=1", 1, 1);
            text("a=1\n", 1, 3);
            text("\u001fa=1", 1, 0);
            text("a=1\u00a0", 1, 3);
            text("  ", 1, 2);
        });
        Bounds.of(PART, "but not within a number", () -> {
            text("a=1 2", 1, 4);
            text("a=12/1 1", 1, 7);
            text("a=1;b=1;a>b+1 1", 1, 14);
            text("a=0 0", 1, 4);
        });
    }

    private static void works() {
        Bounds.of(PART, "a letter from a to p, =, a number", () -> {
            text("`=1", 1, 0);
            text("q=1", 1, 0);
            text("A=1", 1, 0);
            text("P=1", 1, 0);
            fine(FIFTEEN + ";p=1");
            text(FIFTEEN + ";q=1", 1, 60);
            text("a<1", 3, 0);
            text("a:1", 1, 1);
            text("a=", 1, 2);
            text("a=/1", 1, 2);
        });
        Bounds.of(PART, "perhaps / and a number", () -> {
            fine("a=2/1");
            text("a=2/", 1, 4);
            text("a=2/;", 1, 4);
            text("a=2//1", 1, 4);
            text("a=2/1/1", 1, 5);
            text("a=2.1", 1, 3);
            text("a=201", 2, 2);
        });
        Bounds.of(PART, "the works are a, b, c and so on in this order", () -> {
            text("b=1", 3, 0);
            text("p=1", 3, 0);
            fine("a=1;b=2;c=3");
            text("a=1;c=1", 3, 4);
            text("a=1;a=1", 3, 4);
            text(FIFTEEN + ";o=1", 3, 60);
            text(FIFTEEN + ";p=1;p=1", 3, 64);
            text(FIFTEEN + ";p=1;a=1", 3, 64);
            text(FIFTEEN + ";p=1;q=1", 1, 64);
        });
        Bounds.of(PART, "its time (0 to 60)", () -> {
            net("a=0", "length", 0);
            net("a=60", "length", 60);
            text("a=61", 2, 2);
            text("a=-1", 1, 2);
            text("a=100", 2, 2);
        });
        Bounds.of(PART, "its least time (not above its time; its time, if it is not told)", () -> {
            net("a=7/0", "shortest", 0);
            net("a=7/7", "shortest", 7);
            net("a=7", "shortest", 7);
            net("a=60/60", "shortest", 60);
            net("a=0/0", "shortest", 0);
            text("a=7/8", 2, 4);
            text("a=0/1", 2, 4);
            text("a=60/61", 2, 5);
            text("a=7/-1", 1, 4);
            // out of range for a time as well: it is the first number that is
            text("a=61/62", 2, 2);
        });
    }

    private static void net(String text, String what, int due) {
        fine(text);
        SlipwayYard x = Due.net(text);
        Due.is(what + "() of '" + text + "'", due, what.equals("length") ? x::length : x::shortest);
    }

    private static void waits() {
        Bounds.of(PART, "one of the signs > ^ _ < (the four sorts in the order of section 2)", () -> {
            // a takes 5 days, b 2
            int[] due = {8, 3, 6, 1};
            for (int sort = 0; sort < 4; sort++) {
                SlipwayYard x = Due.net("a=5;b=2;a" + ">^_<".charAt(sort) + "b+3");
                Due.is("early(1) of the sort " + sort, due[sort], () -> x.early(1));
            }
            // the signs beside them in the row of all signs
            for (char sign : "?]`:@\\".toCharArray()) {
                text("a=5;b=2;a" + sign + "b", 1, 9);
            }
        });
        Bounds.of(PART, "a letter, perhaps + and a number", () -> {
            fine("a=1;b=1;a>b");
            fine("a=1;b=1;a>b+1");
            text("a=1;b=1;a>b+", 1, 12);
            text("a=1;b=1;a>b++1", 1, 12);
            text("a=1;b=1;a>b1", 1, 11);
            text("a=1;b=1;a>b-1", 1, 11);
            text("a=1;b=1;a>b+1+1", 1, 13);
            text("a=1;b=1;a>", 1, 10);
            text("a=1;b=1;a>+1", 1, 10);
        });
        Bounds.of(PART, "the lag (0 to 30; 0 if it is not told)", () -> {
            net("a=1;b=1;a>b", "length", 2);
            net("a=1;b=1;a>b+0", "length", 2);
            net("a=1;b=1;a>b+30", "length", 32);
            text("a=1;b=1;a>b+31", 2, 12);
            text("a=1;b=1;a>b+60", 2, 12);
            text("a=1;b=1;a>b+-1", 1, 12);
        });
        Bounds.of(PART, "the work of the second letter waits for that of the first one", () -> {
            SlipwayYard x = Due.net("a=5;b=2;b>a");
            Due.is("early(0)", 2, () -> x.early(0));
            Due.is("early(1)", 0, () -> x.early(1));
        });
    }

    private static void numbers() {
        Bounds.of(PART, "A number is digits", () -> {
            net("a=00", "length", 0);
            net("a=060", "length", 60);
            net("a=" + "0".repeat(190) + "59", "length", 59);
            net("a=60/0000000000000000000000000000000000000060", "shortest", 60);
            // the signs beside the digits
            text("a=1/", 1, 4);
            text("a=1:", 1, 3);
            text("a=:", 1, 2);
            text("a=+1", 1, 2);
            text("a=1e1", 1, 3);
            text("a=0x1", 1, 3);
            // numbers that an int or a long cannot hold
            String[] far = {"256", "65536", "2147483647", "2147483648", "4294967296", "4294967297", "9223372036854775808",
                "18446744073709551616", "18446744073709551617", "9".repeat(150)};
            for (String number : far) {
                text("a=" + number, 2, 2);
                text("a=0" + number, 2, 2);
                text("a=9/" + number, 2, 4);
                text("a=9;b=9;a>b+" + number, 2, 12);
            }
        });
    }

    private static void places() {
        Bounds.of(PART, "bytes of the text are numbered from 0", () -> {
            text("x", 1, 0);
            text("a=1;b=2;;", 1, 8);
            text(BLANKS.substring(0, 199) + "x", 1, 199);
            text(BLANKS.substring(0, 199) + "b", 1, 200);
            text(BLANKS.substring(0, 196) + "a=61", 2, 198);
            text("a=1;" + BLANKS.substring(0, 193) + "a>a", 4, 199);
        });
        Bounds.of(PART, "The text is read from the front, and the first error is told", () -> {
            text("a=61;x", 2, 2);
            text("x;a=61", 1, 0);
            text("b=61", 3, 0);
            text("b=x", 3, 0);
            text("a=1;a>a+31", 4, 6);
            text("a=1;a>a;a=61;x", 4, 6);
            text("a=1;c>a+31", 3, 4);
            text("a=1;a>c+31", 3, 6);
            text("a=61/62", 2, 2);
            text("a=61/", 2, 2);
            text("a=61x", 2, 2);
        });
    }

    private static void kinds() {
        Bounds.of(PART, "kind 1, a byte that cannot stand there, at it", TextBounds::eachByteAtEachPlace);
        Bounds.of(PART, "if the text ends too early, its length", () -> {
            String whole = "a = 12 / 3 ; b = 4 ; a > b + 5";
            // the net stands behind these so many bytes
            String ends = " 5 6 7 10 11 18 19 26 27 30 ";
            for (int size = 0; size <= whole.length(); size++) {
                if (ends.contains(" " + size + " ")) {
                    fine(whole.substring(0, size));
                } else {
                    text(whole.substring(0, size), 1, size);
                }
            }
        });
        Bounds.of(PART, "kind 2, at its first byte, a number out of range", () -> {
            text("a=  0061", 2, 4);
            text("a=5 /  6", 2, 7);
            text("a=5;b=5;a>b +  31", 2, 15);
        });
        Bounds.of(PART, "kind 3, at it, a letter of a work that is not the next one", () -> {
            text("  c  = 1", 3, 2);
            text("a=1;  a  = 1", 3, 6);
            text("a=1;b=1;d=", 3, 8);
        });
        Bounds.of(PART, "or of a wait that is not a work told ahead", () -> {
            text("a>a", 3, 0);
            text("a=1;b>a", 3, 4);
            text("a=1;a> b", 3, 7);
            text("a=1;a>b;b=1", 3, 6);
            text("a=1;b>b", 3, 4);
            text("a=1;b>", 3, 4);
            text("a=1;p^a", 3, 4);
            text("a=1;a^p", 3, 6);
            fine("a=1;b=1;a>b");
        });
        Bounds.of(PART, "the sign behind its first letter, = or one of the four, tells which a clause is", () -> {
            text("a=1;c =", 3, 4);
            text("a=1;c <", 3, 4);
            text("a=1;a=2", 3, 4);
            text("a=1;a<a", 4, 6);
        });
        Bounds.of(PART, "without one, kind 1 at what stands there", () -> {
            text("c", 1, 1);
            text("c ;", 1, 2);
            text("a=1;c a", 1, 6);
            text("a=1;a1", 1, 5);
            text("a=1;c", 1, 5);
        });
        Bounds.of(PART, "kind 4, at the second letter of a wait, if a work would wait for itself by it", () -> {
            text("a=1;a > a", 4, 8);
            text("a=1;b=1;a>b;b > a + 3", 4, 16);
            text("a=1;b=1;c=1;a<b;b_c;c^a", 4, 22);
            fine("a=1;b=1;c=1;a<b;b_c;a^c");
        });
        Bounds.of(PART, "or there would be more than 40 waits", () -> {
            String forty = "a=1;b=1" + ";a>b".repeat(40);
            fine(forty);
            text(forty + ";a>b", 4, 170);
            text(forty + ";a>b+", 4, 170);
            text(forty + ";b>a", 4, 170);
            text(forty + ";a>c", 3, 170);
            text(forty + ";a>?", 1, 170);
            text(forty + ";a=1", 3, 168);
            fine(forty + ";c=1");
            text(forty + ";c=1;b>c", 4, 174);
        });
    }

    private static final int FINE = 0;
    private static final int NOT_THERE = 1;
    private static final int TOO_EARLY = 2;

    /** Each of the 255 bytes behind these. */
    private static void eachByteAtEachPlace() {
        for (int sign = 1; sign < 256; sign++) {
            boolean isLetter = sign >= 'a' && sign <= 'p';
            boolean isDigit = sign >= '0' && sign <= '9';
            int blank = sign == ' ' ? TOO_EARLY : NOT_THERE;
            int fineBlank = sign == ' ' ? FINE : NOT_THERE;
            behind("", sign, isLetter ? TOO_EARLY : blank);
            behind("a=1;", sign, isLetter ? TOO_EARLY : blank);
            behind("a", sign, sign == '=' ? TOO_EARLY : ">^_<".indexOf(sign) >= 0 ? error(3, 0) : blank);
            behind("a=", sign, isDigit ? FINE : blank);
            behind("a=1", sign, isDigit ? FINE : sign == ';' || sign == '/' ? TOO_EARLY : fineBlank);
            behind("a=1 ", sign, sign == ';' || sign == '/' ? TOO_EARLY : fineBlank);
            behind("a=1/", sign, sign == '0' || sign == '1' ? FINE : isDigit ? error(2, 4) : blank);
            behind("a=1/1", sign, isDigit ? error(2, 4) : sign == ';' ? TOO_EARLY : fineBlank);
            behind("a=1;b=1;a>", sign, sign == 'b' ? FINE : isLetter ? error(sign == 'a' ? 4 : 3, 10) : blank);
            behind("a=1;b=1;a>b", sign, sign == ';' || sign == '+' ? TOO_EARLY : fineBlank);
            behind("a=1;b=1;a>b+", sign, isDigit ? FINE : blank);
            behind("a=1;b=1;a>b+1", sign, isDigit ? FINE : sign == ';' ? TOO_EARLY : fineBlank);
        }
    }

    private static int error(int kind, int place) {
        return 100 * kind + place;
    }

    private static void behind(String ahead, int sign, int due) {
        String text = ahead + (char) sign;
        if (due == FINE) {
            fine(text);
        } else if (due == NOT_THERE) {
            text(text, 1, ahead.length());
        } else if (due == TOO_EARLY) {
            text(text, 1, text.length());
        } else {
            text(text, due / 100, due % 100);
        }
    }

    private static void newYard() {
        Bounds.of("Promise 1", "without works", () -> {
            SlipwayYard x = new SlipwayYard();
            Due.is("works()", 0, x::works);
            Due.is("length()", 0, x::length);
            Due.is("clearNet()", 0, x::clearNet);
            Due.index("early(0)", () -> x.early(0));
            Due.index("drop(0)", () -> x.drop(0));
            Due.is("work()", 0, () -> x.work(1, 1, 1, 1));
        });
        Bounds.of("Promise 1", "plates, blocks, slips and cranes", () -> {
            SlipwayYard x = new SlipwayYard();
            Due.is("openEdges()", 0, x::openEdges);
            Due.is("isClosed()", false, x::isClosed);
            Due.is("weight()", 0L, x::weight);
            Due.is("putShare()", 0.0f, x::putShare);
            Due.index("takeAway(0)", () -> x.takeAway(0));
            Due.index("firstStand(0, 1, 1, true)", () -> x.firstStand(0, 1, 1, true));
            Due.index("nextLift(0, 0, 0, 1)", () -> x.nextLift(0, 0, 0, 1));
            Due.is("plate()", 0, () -> x.plate(10203));
            Due.is("block()", 0, () -> x.block(1, 1, 1, 1));
            Due.is("slip()", 0, () -> x.slip(1));
            Due.is("crane()", 0, () -> x.crane(1));
        });
        Bounds.of("Promise 1", "with an empty text", () -> {
            Bounds.answers("clearText()", 0, Yards::empty, SlipwayYard::clearText);
            Bounds.answers("type(0)", 0, Yards::empty, x -> x.type(0));
            // a net is a clause at least
            Bounds.answers("errorKind()", 1, Yards::empty, SlipwayYard::errorKind);
            Bounds.answers("errorPlace()", 0, Yards::empty, SlipwayYard::errorPlace);
        });
        Bounds.of("Promise 1", "all days are work days", () -> {
            SlipwayYard x = new SlipwayYard();
            int[] numbers = {0, 1, 5, 6, 7, 399, 400, 401, 1999, 2000};
            for (int number : numbers) {
                Due.is("dayOf(" + number + ")", number, () -> x.dayOf(number));
            }
            for (int weekday = 0; weekday < 6; weekday++) {
                int its = weekday;
                Due.is("rest(" + weekday + ")", true, () -> x.rest(its));
            }
            Due.is("free(0)", true, () -> x.free(0));
            Due.is("free(400)", true, () -> x.free(400));
        });
    }

    /** A yard with a text of so many blanks. */
    private static SlipwayYard blanks(int size) {
        SlipwayYard x = new SlipwayYard();
        Due.type(x, BLANKS.substring(0, size));
        return x;
    }

    private static void typing() {
        String part = "Promise 2";
        Bounds.of(part, "Puts bytes behind the text", () -> {
            Bounds.answers("type behind 7 bytes", "9 1 7", () -> blanks(7),
                x -> x.type(0x3F3FL) + " " + x.errorKind() + " " + x.errorPlace());
        });
        Bounds.of(part, "those of a number, the highest one first", () -> {
            SlipwayYard x = new SlipwayYard();
            Due.is("type of 8 bytes", 8, () -> x.type(0x613D313B623D3230L));
            Due.is("read()", 2, x::read);
            Due.is("length()", 20, x::length);
        });
        Bounds.of(part, "without those that are 0", () -> {
            SlipwayYard x = new SlipwayYard();
            Due.is("type with 0 ahead, between and behind", 3, () -> x.type(0x0061003D00003100L));
            Due.is("read()", 1, x::read);
            Due.is("length()", 1, x::length);
            Due.is("type(0)", 3, () -> x.type(0));
        });
        Bounds.of(part, "`bytes`: the number", () -> {
            Bounds.answers("type(Long.MIN_VALUE), the byte 128", "1 1 0", Yards::empty, TextBounds::typeLeast);
            Bounds.answers("type(Long.MAX_VALUE)", 8, Yards::empty, x -> x.type(Long.MAX_VALUE));
            Bounds.answers("type(-1)", 8, Yards::empty, x -> x.type(-1));
            Bounds.answers("type(Integer.MIN_VALUE)", 5, Yards::empty, x -> x.type(Integer.MIN_VALUE));
            Bounds.answers("type(1L << 32)", 1, Yards::empty, x -> x.type(1L << 32));
            Bounds.answers("type(1L << 56)", 1, Yards::empty, x -> x.type(1L << 56));
        });
        Bounds.of(part, "Returns the length of the text", () -> {
            Bounds.answers("type of 1 byte behind 199", 200, () -> blanks(199), x -> x.type('a'));
            Bounds.answers("type of 8 bytes behind 192", 200, () -> blanks(192), x -> x.type(-1));
            Bounds.answers("type of no byte behind 200", 200, () -> blanks(200), x -> x.type(0));
        });
        Bounds.of(part, "Throws `IllegalStateException` if it would be above 200", () -> {
            Bounds.refuses("type of 1 byte behind 200", Bounds.STATE, () -> blanks(200), x -> x.type('a'));
            Bounds.refuses("type of 2 bytes behind 199", Bounds.STATE, () -> blanks(199), x -> x.type(0x6162L));
            Bounds.refuses("type of 8 bytes behind 193", Bounds.STATE, () -> blanks(193), x -> x.type(-1));
            Bounds.refuses("type(Long.MAX_VALUE) behind 199", Bounds.STATE, () -> blanks(199), x -> x.type(Long.MAX_VALUE));
            Bounds.refuses("type(Long.MIN_VALUE) behind 200", Bounds.STATE, () -> blanks(200), x -> x.type(Long.MIN_VALUE));
            Bounds.answers("type(Long.MIN_VALUE) behind 199", 200, () -> blanks(199), x -> x.type(Long.MIN_VALUE));
            Bounds.answers("type of 1 of 2 bytes, the other one 0, behind 199", 200, () -> blanks(199), x -> x.type(0x6100L));
            for (int sign = 1; sign < 256; sign++) {
                // the last place is free for each byte, and no byte goes behind it, wherever it stands in the number
                long bytes = (long) sign << sign % 8 * 8;
                SlipwayYard x = blanks(199);
                Due.is("type(" + bytes + ") behind 199", 200, () -> x.type(bytes));
                Due.state("type(" + bytes + ") behind 200", () -> x.type(bytes));
            }
            // when it is empty again there is room for 200 again
            Bounds.answers("type behind clearText()", "200 8", () -> blanks(200), x -> x.clearText() + " " + x.type(-1));
        });
        Bounds.of("Promise 3", "Empties the text", () -> {
            Bounds.answers("clearText()", "15 0 1 0", Yards::busy,
                x -> x.clearText() + " " + x.type(0) + " " + x.errorKind() + " " + x.errorPlace());
            Bounds.answers("works() stay", "15 5", Yards::busy, x -> x.clearText() + " " + x.works());
        });
        Bounds.of("Promise 3", "Returns its length before", () -> {
            Bounds.answers("clearText() of an empty text", 0, Yards::empty, SlipwayYard::clearText);
            Bounds.answers("clearText() of 1 byte", 1, () -> blanks(1), SlipwayYard::clearText);
            Bounds.answers("clearText() of 200 bytes", "200 0", () -> blanks(200), x -> x.clearText() + " " + x.clearText());
        });
    }

    private static String typeLeast(SlipwayYard x) {
        return x.type(Long.MIN_VALUE) + " " + x.errorKind() + " " + x.errorPlace();
    }

    private static SlipwayYard with(String text) {
        SlipwayYard x = Yards.busy();
        x.clearText();
        Due.type(x, text);
        return x;
    }

    private static void errors() {
        Bounds.none("Promise 4", "Returns the kind of the error of the text as a net");
        Bounds.of("Promise 4", "Returns 1 to 4; 0 without an error", () -> {
            String[] texts = {"a=1", "a=", "a=61", "b=1", "a=1;a>a"};
            for (int kind = 0; kind < texts.length; kind++) {
                String text = texts[kind];
                Bounds.answers("errorKind() of " + text, kind, () -> with(text), SlipwayYard::errorKind);
            }
        });
        Bounds.none("Promise 5", "Returns the place of the error of the text as a net");
        Bounds.of("Promise 5", "Returns the index of a byte, or the length of the text", () -> {
            Bounds.answers("errorPlace() at the first byte", 0, () -> with("x"), SlipwayYard::errorPlace);
            Bounds.answers("errorPlace() at the last byte", 4, () -> with("a=1;;"), SlipwayYard::errorPlace);
            Bounds.answers("errorPlace() behind the last byte", 4, () -> with("a=1;"), SlipwayYard::errorPlace);
            Bounds.answers("errorPlace() of an empty text", 0, () -> with(""), SlipwayYard::errorPlace);
            Bounds.answers("errorPlace() behind 200 bytes", 200, () -> with(BLANKS), SlipwayYard::errorPlace);
            Bounds.answers("errorPlace() at byte 199", 199, () -> with(BLANKS.substring(1) + "="), SlipwayYard::errorPlace);
        });
        Bounds.of("Promise 5", "NONE without an error", () -> {
            Bounds.answers("errorPlace()", SlipwayYard.NONE, () -> with("a=1"), SlipwayYard::errorPlace);
            Bounds.answers("errorPlace() of 200 bytes", SlipwayYard.NONE, Yards::fullNet, SlipwayYard::errorPlace);
        });
    }

    private static void reading() {
        String part = "Promise 6";
        Bounds.of(part, "Makes the net that of the text, which stays, in place of the one before", () -> {
            Bounds.answers("read()", "2 2 15 2", Yards::busy,
                x -> x.read() + " " + x.works() + " " + x.type(0) + " " + x.read());
            Bounds.answers("the waits of the text only", "2 0", Yards::busy, x -> x.read() + " " + x.drop(0));
            Bounds.answers("read() in place of 16 works and 40 waits", "1 1 12", Yards::fullNet,
                x -> x.read() + " " + x.works() + " " + x.length());
            Bounds.answers("40 waits of a text", "2 39", () -> with("a=1;b=1" + ";a>b".repeat(40)),
                x -> x.read() + " " + x.drop(39));
            Bounds.answers("16 works of a text of 199 bytes", "16 33", () -> with(FIFTEEN + ";p=1" + ";a>p".repeat(34)),
                x -> x.read() + " " + x.drop(33));
        });
        Bounds.of(part, "its works have the price 0, no means and no delays", () -> {
            for (int work = 0; work < 2; work++) {
                int its = work;
                Bounds.answers("what work " + work + " has", "2 0 0 0 0 0 0", Yards::busy, x -> x.read() + " "
                    + x.set(its, 2, 5) + " " + x.set(its, 3, 5) + " " + x.delay(its, 0, 5) + " " + x.delay(its, 1, 5)
                    + " " + x.delay(its, 2, 5) + " " + x.delay(its, 3, 5));
            }
            // those of a text that is read once more, too
            Bounds.answers("what work 0 has", "2 0 0 2 0 0", Yards::busy, x -> x.read() + " " + x.set(0, 2, 5) + " "
                + x.delay(0, 0, 5) + " " + x.read() + " " + x.set(0, 2, 5) + " " + x.delay(0, 0, 5));
        });
        Bounds.of(part, "Returns how many works it has", () -> {
            Bounds.answers("read() of 1 work", 1, () -> with("a=0"), SlipwayYard::read);
            Bounds.answers("read() of 16 works", 16, () -> with(FIFTEEN + ";p=1"), SlipwayYard::read);
        });
        Bounds.of(part, "Throws `IllegalStateException` if the text has an error", () -> {
            String[] texts = {"", " ", "a=", "a=1;b=2;x", "a=61", "a=1;b=2;d=1", "a=1;b=2;a>c", "a=1;b=2;a>a",
                "a=1;b=1" + ";a>b".repeat(41)};
            for (String text : texts) {
                Bounds.refuses("read() of '" + text + "'", Bounds.STATE, () -> with(text), SlipwayYard::read);
            }
        });
    }
}
