/** Promises 1 to 6: a new object, and the text as a net. */
public final class TextTest {
    public static void main(String[] args) {
        newObject();
        typing();
        clearing();
        textsWithoutErrors();
        kindOne();
        kindTwo();
        kindThree();
        kindFour();
        firstErrorIsTold();
        reading();
        Due.end();
    }

    private static void newObject() {
        SlipwayYard x = new SlipwayYard();
        Due.is("works()", 0, x::works);
        Due.is("length()", 0, x::length);
        Due.is("clearText()", 0, x::clearText);
        Due.is("openEdges()", 0, x::openEdges);
        Due.is("isClosed()", false, x::isClosed);
        Due.is("weight()", 0, x::weight);
        Due.is("putShare()", 0.0f, x::putShare);
        Due.is("meanPlay()", 0.0, x::meanPlay);
        Due.is("errors()", 0, x::errors);
        for (int n = 0; n <= 2000; n += 125) {
            int number = n;
            Due.is("dayOf(" + n + ")", n, () -> x.dayOf(number));
        }
        Due.index("early(0)", () -> x.early(0));
        Due.index("drop(0)", () -> x.drop(0));
        Due.index("put(0, 0, 0, 0)", () -> x.put(0, 0, 0, 0));
        Due.index("firstStand(0, 1, 1, true)", () -> x.firstStand(0, 1, 1, true));
        Due.index("nextLift(0, 0, 0, 1)", () -> x.nextLift(0, 0, 0, 1));
        Due.is("plate(10203)", 0, () -> x.plate(10203));
        Due.is("block(1, 1, 1, 1)", 0, () -> x.block(1, 1, 1, 1));
        Due.is("slip(1)", 0, () -> x.slip(1));
        Due.is("crane(1)", 0, () -> x.crane(1));
        Due.is("work(0, 0, 0, 0)", 0, () -> x.work(0, 0, 0, 0));
    }

    private static void typing() {
        SlipwayYard x = new SlipwayYard();
        Due.is("type(0)", 0, () -> x.type(0));
        Due.is("type('a')", 1, () -> x.type('a'));
        Due.is("type('=', 0, '1')", 3, () -> x.type(0x3D0031L));
        Due.is("type(0x2000000000000000)", 4, () -> x.type(0x2000000000000000L));
        Due.is("errorKind()", 0, x::errorKind);
        Due.is("type(-1)", 12, () -> x.type(-1));
        Due.is("errorKind() of a byte 255", 1, x::errorKind);
        Due.is("errorPlace() of a byte 255", 4, x::errorPlace);
        Due.is("type(Long.MIN_VALUE)", 13, () -> x.type(Long.MIN_VALUE));
        // up to 200 bytes, not one more
        SlipwayYard y = new SlipwayYard();
        for (int k = 1; k <= 24; k++) {
            int due = 8 * k;
            Due.is("type of 8 bytes", due, () -> y.type(0x2020202020202020L));
        }
        Due.is("type of 7 bytes", 199, () -> y.type(0x20202020202020L));
        Due.state("type of 2 bytes behind 199", () -> y.type(0x613DL));
        Due.is("the length stays", 199, () -> y.type(0));
        Due.is("errorPlace() behind blanks", 199, y::errorPlace);
        Due.is("type of the last byte", 200, () -> y.type('a'));
        Due.is("errorPlace() behind the last byte", 200, y::errorPlace);
        Due.state("type of 1 byte behind 200", () -> y.type('a'));
        Due.state("type(1) behind 200", () -> y.type(1));
        Due.state("type(1 << 63) behind 200", () -> y.type(Long.MIN_VALUE));
        Due.is("type of none behind 200", 200, () -> y.type(0));
        Due.is("errorPlace() stays", 200, y::errorPlace);
        // a number that ends with the 200th byte
        SlipwayYard z = new SlipwayYard();
        for (int k = 1; k <= 24; k++) {
            z.type(0x2020202020202020L);
        }
        Due.type(z, "  a = 12");
        Due.is("errorKind() of 200 bytes", 0, z::errorKind);
        Due.is("read() of 200 bytes", 1, z::read);
        Due.is("length() of 200 bytes", 12, z::length);
    }

    private static void clearing() {
        SlipwayYard x = new SlipwayYard();
        Due.type(x, "a=3;b=4");
        Due.is("read()", 2, x::read);
        Due.is("clearText()", 7, x::clearText);
        Due.is("clearText() again", 0, x::clearText);
        Due.is("works() stay", 2, x::works);
        Due.is("type(a) from the front", 1, () -> x.type('a'));
        Due.type(x, "=1");
        Due.is("errorKind() of the new text", 0, x::errorKind);
        // an error does not stay when the text goes on
        x.type(';');
        Due.is("errorKind() of an end too early", 1, x::errorKind);
        Due.is("errorPlace() of an end too early", 4, x::errorPlace);
        Due.type(x, "b=2");
        Due.is("errorPlace() behind it", -1, x::errorPlace);
        Due.is("errorKind() behind it", 0, x::errorKind);
    }

    private static void text(String text, int kind, int place) {
        SlipwayYard x = new SlipwayYard();
        Due.type(x, text);
        Due.is("errorKind() of '" + text + "'", kind, x::errorKind);
        Due.is("errorPlace() of '" + text + "'", place, x::errorPlace);
        if (kind == 0) {
            Due.is("read() of '" + text + "'", x.read(), x::works);
        } else {
            Due.state("read() of '" + text + "'", x::read);
        }
    }

    private static void textsWithoutErrors() {
        text("a=0", 0, -1);
        text("a=60/60", 0, -1);
        text("a=60/0;b=0/0", 0, -1);
        text("  a = 12 / 3 ;  b=1;a > b + 30 ; a^b;a_b+0;a<b ", 0, -1);
        text("a=0060;b=00000000000000000000000000000000000000001/01;a>b+030", 0, -1);
        text("a=1;b=1;a>b;c=1;b>c;a>c;a>b", 0, -1);
        text("a=1;b=1;c=1;d=1;e=1;f=1;g=1;h=1;i=1;j=1;k=1;l=1;m=1;n=1;o=1;p=1;a>p;p>o;o>n", 0, -1);
    }

    private static void kindOne() {
        text("", 1, 0);
        text("   ", 1, 3);
        text(";", 1, 0);
        text("a", 1, 1);
        text("a ", 1, 2);
        text("a=", 1, 2);
        text("a=  ", 1, 4);
        text("a=1;", 1, 4);
        text("a=1; ", 1, 5);
        text("a=1;;b=1", 1, 4);
        text("a=1/", 1, 4);
        text("a=1/;", 1, 4);
        text("a=1 2", 1, 4);
        text("a=1/1/1", 1, 5);
        text("a=1+1", 1, 3);
        text("a=-1", 1, 2);
        text("a=x", 1, 2);
        text("A=1", 1, 0);
        text("q=1", 1, 0);
        text("1=1", 1, 0);
        text("a:1", 1, 1);
        text("b?", 1, 1);
        text("ab>a", 1, 1);
        text("b", 1, 1);
        text("a=1;a>", 1, 6);
        text("a=1;a> ", 1, 7);
        text("a=1;a>q", 1, 6);
        text("a=1;a>;", 1, 6);
        text("a=1;b=1;a>b+", 1, 12);
        text("a=1;b=1;a>b+-", 1, 12);
        text("a=1;b=1;a>b/1", 1, 11);
        text("a=1;b=1;a>b=1", 1, 11);
        text("a=1;b=1;a>b+1 1", 1, 14);
        text("a=1;b=1;a>b+1+1", 1, 13);
        text("a=1\tb", 1, 3);
        text("a=1\u00a0", 1, 3);
        text("a\u00ff", 1, 1);
    }

    private static void kindTwo() {
        text("a=61", 2, 2);
        text("a= 61", 2, 3);
        text("a=061", 2, 2);
        text("a=5/6", 2, 4);
        text("a=60/ 61", 2, 6);
        text("a=99999999999999999999999999999999999", 2, 2);
        text("a=4294967296", 2, 2);
        text("a=18446744073709551616", 2, 2);
        text("a=1;b=1;a>b+31", 2, 12);
        text("a=1;b=1;a>b+ 4294967297", 2, 13);
        text("a=61x", 2, 2);
    }

    private static void kindThree() {
        text("b=1", 3, 0);
        text("  b =1", 3, 2);
        text("a=1;a=2", 3, 4);
        text("a=1;c=2", 3, 4);
        text("a>a", 3, 0);
        text("b>", 3, 0);
        text("a=1;b>a", 3, 4);
        text("a=1;a>b", 3, 6);
        text("a=1; a > b;b=1", 3, 9);
        text("a=1;b=1;c=1;d=1;e=1;f=1;g=1;h=1;i=1;j=1;k=1;l=1;m=1;n=1;o=1;p=1;p=1", 3, 64);
        text("a=1;b=1;c=1;d=1;e=1;f=1;g=1;h=1;i=1;j=1;k=1;l=1;m=1;n=1;o=1;p=1;a=1", 3, 64);
    }

    private static void kindFour() {
        text("a=1;a>a", 4, 6);
        text("a=1;a < a", 4, 8);
        text("a=1;b=1;a>b;b^a", 4, 14);
        text("a=1;b=1;c=1;a_b;b<c;c>a+1", 4, 22);
        text("a=1;b=1;c=1;c_b;b<a;a>c", 4, 22);
        StringBuilder many = new StringBuilder("a=1;b=1");
        for (int k = 0; k < 40; k++) {
            many.append(";a>b");
        }
        text(many.toString(), 0, -1);
        text(many + ";b=2", 3, 168);
        text(many + ";a<b", 4, 170);
        text(many + ";a<b+99", 4, 170);
        text(many + ";c<b", 3, 168);
        text(many + ";a<c", 3, 170);
        text(many + ";a<", 1, 170);
    }

    private static void firstErrorIsTold() {
        text("b=99", 3, 0);
        text("b=", 3, 0);
        text("a=99;b=x", 2, 2);
        text("a=1;a>a+99", 4, 6);
        text("a=1;c>a;x", 3, 4);
        text("a=1;a>a;q", 4, 6);
        text("x;a=99", 1, 0);
    }

    private static void reading() {
        SlipwayYard x = new SlipwayYard();
        x.work(9, 1, 7, 5);
        x.work(9, 1, 7, 5);
        x.waits(1, 0, 0, 3);
        x.delay(0, 0, 9);
        Due.type(x, "a=5/2;b=4;c=1;a>b+2;b^c+1;b_c+3;a<c+20");
        Due.is("read()", 3, x::read);
        Due.is("works()", 3, x::works);
        Due.is("early(0)", 0, () -> x.early(0));
        Due.is("early(1), the second letter waits", 7, () -> x.early(1));
        Due.is("early(2)", 19, () -> x.early(2));
        Due.is("drop(3), the wait of <", 3, () -> x.drop(3));
        Due.is("early(2) by _", 13, () -> x.early(2));
        Due.is("drop(2), the wait of _", 2, () -> x.drop(2));
        Due.is("early(2) by ^", 8, () -> x.early(2));
        Due.is("no delays", 11, () -> x.lateLength(15));
        Due.is("the time of a", 5, () -> x.set(0, 0, 5));
        Due.is("the least time of a", 2, () -> x.set(0, 1, 2));
        Due.is("the least time of b is its time", 4, () -> x.set(1, 1, 4));
        Due.is("the price of a", 0, () -> x.set(0, 2, 0));
        Due.is("the means of a", 0, () -> x.set(0, 3, 0));
        Due.is("the text stays", 38, () -> x.type(0));
        Due.is("read() again", 3, x::read);
        Due.is("early(2) again", 19, () -> x.early(2));
        // an error changes nothing
        x.set(0, 2, 8);
        x.delay(1, 2, 4);
        x.type(';');
        Due.state("read() with an error", x::read);
        Due.is("the works stay", 3, x::works);
        Due.is("the price stays", 8, () -> x.set(0, 2, 8));
        Due.is("the delay stays", 4, () -> x.delay(1, 2, 4));
        Due.is("the waits stay", 5, () -> x.waits(2, 0, 0, 0));
        Due.is("the text stays", 39, x::clearText);
        Due.state("read() of an empty text", x::read);
        Due.is("errors()", 0, x::errors);
    }
}
