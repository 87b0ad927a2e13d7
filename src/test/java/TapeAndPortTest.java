/** Promises 1 to 4: a new object, feed, port, fault. */
public final class TapeAndPortTest {
    public static void main(String[] args) {
        newObject();
        feed();
        portTakesTheFirstBytes();
        portMakesAllAnew();
        faultLeavesAll();
        rightTexts();
        tokensThatCantStand();
        textsThatEndTooSoon();
        tooMuch();
        tooDeep();
        unknown();
        hiredAndTwice();
        leastAndFirst();
        Check.end();
    }

    private static void newObject() {
        GrottoHours x = new GrottoHours();
        int[] want = {0, 0, 0, 5, 70, 0, 0, 0, 0, 0, 0, 0, 0, 0, 0};
        for (int i = 0; i < want.length; i++) {
            int what = i;
            Check.same("new: count(" + i + ")", want[i], () -> x.count(what));
        }
        Check.same("new: fault()", GrottoHours.NONE, x.fault());
        Check.same("NONE", -1, GrottoHours.NONE);
        Check.isTrue("new: restore()", !x.restore());
        Check.noSuchElement("new: grotto(0, 0)", () -> x.grotto(0, 0));
        Check.noSuchElement("new: guild(0, 0)", () -> x.guild(0, 0));
        Check.same("new: port(0)", 0, x.port(0));
    }

    private static void feed() {
        GrottoHours x = new GrottoHours();
        for (int i = 1; i <= 35; i++) {
            Check.same("feed " + i, 20 * i, x.feed(-1, 0, 1, 2, 3));
        }
        Check.same("feed 36", -1, x.feed(1, 2, 3, 4, 5));
        Check.same("count(11) of a full tape", 700, x.count(11));
        // The highest byte comes first: "wet 1;wet" is told by five numbers.
        GrottoHours y = new GrottoHours();
        y.feed('w' << 24 | 'e' << 16 | 't' << 8 | ' ', '3' << 24 | ';' << 16 | ' ' << 8 | ' ', 0x20202020, 0x20202020,
            0x20202020);
        Check.same("port of wet 3;", 0, y.port(20));
        Check.same("wet of it", 3, y.count(3));
        // A byte above 127 is no token, nor is one of 0.
        GrottoHours z = new GrottoHours();
        z.feed(0x20202020, 0x2020E920, 0x20202020, 0x20202020, 0x20202020);
        Check.same("port of a strange byte", 1, z.port(20));
        Check.same("fault()", 6, z.fault());
        z.feed(0x20202000, 0x20202020, 0x20202020, 0x20202020, 0x20202020);
        Check.same("port of a byte 0", 1, z.port(20));
        Check.same("fault()", 3, z.fault());
    }

    private static void portTakesTheFirstBytes() {
        GrottoHours x = new GrottoHours();
        Texts.feed(x, "bound 7;bound 8; #");
        Check.illegalArgument("port(21)", () -> x.port(21));
        Check.illegalArgument("port(-1)", () -> x.port(-1));
        Check.illegalArgument("port(least)", () -> x.port(Integer.MIN_VALUE));
        Check.same("the tape stays", 20, x.count(11));
        Check.same("STATUS stays", 0, x.count(12));
        Check.same("port(8)", 0, x.port(8));
        Check.same("the bound", 7, x.count(4));
        Check.same("the tape is empty", 0, x.count(11));
        Check.illegalArgument("port(1) of an empty tape", () -> x.port(1));
        Check.same("port(0)", 0, x.port(0));
        Check.same("the bound is untold again", 70, x.count(4));
        Texts.feed(x, "bound 7;bound 8; #");
        Check.same("port(7) ends too soon", 1, x.port(7));
        Check.same("at its length", 7, x.fault());
        Check.illegalArgument("port(2)", () -> x.port(2));
        Check.same("a wrong n leaves the place", 7, x.fault());
    }

    private static void portMakesAllAnew() {
        GrottoHours x = Texts.town("grotto 1 0 1;guild 1 10 100 hires 0;wet 1 0;bound 9;prays 3;costs 4;");
        x.hours(3);
        x.drain(0, true);
        x.hours(21);
        x.see(0, 1, 5);
        x.see(0, 21, 5);
        x.image();
        Check.same("port of a fault", 1, Texts.port(x, "grotto 1 0 1;guild 1 10 100 hires 0"));
        Check.isTrue("a fault leaves the image", x.restore());
        Check.same("port anew", 0, Texts.port(x, "grotto 1 0 1;guild 1 10 100 hires 0;"));
        int[] want = {1, 1, 0, 5, 70, 1, 0, 100, 10, 0, 0, 0, 0, 1, 1};
        for (int i = 0; i < want.length; i++) {
            int what = i;
            Check.same("anew: count(" + i + ")", want[i], () -> x.count(what));
        }
        Check.isTrue("anew: the image is gone", !x.restore());
        Check.same("anew: silences", 0, x.guild(0, 3));
        Check.same("anew: no rule prays", 6, x.then(0, 1, 0));
        Check.same("anew: no rule costs", 1, x.guild(0, 5));
        Check.same("anew: undo()", -1, x.undo());
        // Whatever an earlier text told, or one with a fault, is told no more.
        for (int i = 0; i < 3; i++) {
            Texts.port(x, "grotto 1 0 1;guild 1 50 100 hires 0;wet 1 0;bound 60;prays 3;costs 4;");
            x.hours(20);
            Texts.port(x, "grotto 1 0 1;guild 1 10 100 hires 0;wet 2;bound 8;prays 2;costs 3;#");
            Check.same("once more", 0, Texts.port(x, "grotto 1 0 1;guild 1 10 100 hires 0;"));
            Check.same("once more: wet", 5, x.count(3));
            Check.same("once more: bound", 70, x.count(4));
            Check.same("once more: silences", 0, x.guild(0, 3));
            Check.same("once more: no rule prays", 6, x.then(0, 1, 0));
            Check.same("once more: no rule costs", 1, x.guild(0, 5));
        }
    }

    private static void faultLeavesAll() {
        GrottoHours x = Texts.town("grotto 2 1 3;guild 1 10 100 hires 0;wet 1 0;");
        x.hours(1);
        x.see(0, 1, 5);
        x.image();
        Check.same("port of a fault", 5, Texts.port(x, "bound 3;guild 2 2 2;bound 4;"));
        int[] want = {1, 1, 1, 0, 70, 1, 0, 100, 11, 1, 1, 0, 1, 0, 0};
        for (int i = 0; i < want.length; i++) {
            int what = i;
            Check.same("fault: count(" + i + ")", want[i], () -> x.count(what));
        }
        Check.same("fault: the place", 20, x.fault());
        Check.same("fault: undo()", 0, x.undo());
        Check.same("another fault", 1, Texts.port(x, ";"));
        Check.same("the latest place", 0, x.fault());
        Check.same("STATUS 0", 2, x.count(12));
        Check.same("no fault", 0, Texts.port(x, ""));
        Check.same("no place", -1, x.fault());
        Check.same("STATUS 0 stays", 2, x.count(12));
    }

    private static void rightTexts() {
        Texts.fault("", 0, -1);
        Texts.fault(" \n \n", 0, -1);
        Texts.fault("grotto12 11 20;hollow1 0 0;", 0, -1);
        Texts.fault("grotto\n1\n0 0\n;", 0, -1);
        Texts.fault("guild 9 99 999;guild 0 0 0;", 0, -1);
        Texts.fault("grotto 1 0 0;guild 1 1 1hires0;", 0, -1);
        Texts.fault("wet 0 1 2 3 4 5 6 9;", 0, -1);
        Texts.fault("bound 99;", 0, -1);
        Texts.fault("bound 0001;", 0, -1);
        Texts.fault("prays 9999+sin*purse/drip-price<wet and hour;", 0, -1);
        Texts.fault("costs greed=sin and not purse<drip or price and wet;", 0, -1);
        Texts.fault("prays not not not not not not 1;", 0, -1);
        Texts.fault("prays not not not not(not not not 1)and not not not not not not 1;", 0, -1);
        Texts.fault("prays(((((1)))));", 0, -1);
        Texts.fault("prays 1<2 and 1<2 or(1<2)=(2=3);", 0, -1);
        Texts.fault("grotto 1 0 0;".repeat(8) + "guild 1 1 1;".repeat(6), 0, -1);
    }

    private static void tokensThatCantStand() {
        Texts.fault("x", 1, 0);
        Texts.fault(" Grotto 1 1 1;", 1, 1);
        Texts.fault("grottoo 1 1 1;", 1, 0);
        Texts.fault("hires 0;", 1, 0);
        Texts.fault(";", 1, 0);
        Texts.fault("12;", 1, 0);
        Texts.fault("12345;", 1, 0);
        Texts.fault("grotto 1 1 ;", 1, 11);
        Texts.fault("grotto 1 1 1 1;", 1, 13);
        Texts.fault("grotto 1 1 1 12345;", 1, 13);
        Texts.fault("grotto -1 1 1;", 1, 7);
        Texts.fault("grotto 1 1 1 guild 1 1 1;", 1, 13);
        Texts.fault("guild 1 1 hires 0;", 1, 10);
        Texts.fault("guild 1 1 1 hires;", 1, 17);
        Texts.fault("grotto 1 1 1;guild 1 1 1 hires 0 0;", 1, 33);
        Texts.fault("guild 1 1 1 hired 0;", 1, 12);
        Texts.fault("wet;", 1, 3);
        Texts.fault("wet 1 a;", 1, 6);
        Texts.fault("bound;", 1, 5);
        Texts.fault("bound 1 2;", 1, 8);
        Texts.fault("prays;", 1, 5);
        Texts.fault("prays 1 2;", 1, 8);
        Texts.fault("prays 1 sin;", 1, 8);
        Texts.fault("prays 1 not 2;", 1, 8);
        Texts.fault("prays 1(2);", 1, 7);
        Texts.fault("prays 1);", 1, 7);
        Texts.fault("prays (1;", 1, 8);
        Texts.fault("prays ();", 1, 7);
        Texts.fault("prays 1<2<3;", 1, 9);
        Texts.fault("prays 1=2<3;", 1, 9);
        Texts.fault("prays -1;", 1, 6);
        Texts.fault("prays 1+*2;", 1, 8);
        Texts.fault("prays 1 and;", 1, 11);
        Texts.fault("prays not;", 1, 9);
        Texts.fault("prays not<1;", 1, 9);
        Texts.fault("prays 1+A;", 1, 8);
        Texts.fault("prays 1\t;", 1, 7);
        Texts.fault("prays 1\r;", 1, 7);
        Texts.fault("prays 1 costs 1;", 1, 8);
    }

    private static void textsThatEndTooSoon() {
        Texts.fault("grotto", 1, 6);
        Texts.fault("grotto 1 1 1", 1, 12);
        Texts.fault("grotto 1 1 1  \n", 1, 15);
        Texts.fault("guild 1 1 1 hires", 1, 17);
        Texts.fault("wet", 1, 3);
        Texts.fault("wet 1", 1, 5);
        Texts.fault("bound ", 1, 6);
        Texts.fault("prays", 1, 5);
        Texts.fault("prays 1", 1, 7);
        Texts.fault("prays (1", 1, 8);
        Texts.fault("prays ((((((", 1, 12);
    }

    private static void tooMuch() {
        Texts.fault("grotto 0 0 0;", 2, 7);
        Texts.fault("grotto 13 0 0;", 2, 7);
        Texts.fault("grotto 1 12 0;", 2, 9);
        Texts.fault("hollow 1 11 21;", 2, 12);
        Texts.fault("grotto 00001 0 0;", 2, 7);
        Texts.fault("guild 10 0 0;", 2, 6);
        Texts.fault("guild 9 100 0;", 2, 8);
        Texts.fault("guild 9 99 1000;", 2, 11);
        Texts.fault("grotto 1 0 0;guild 1 1 1 hires 00000;", 2, 31);
        Texts.fault("wet 10;", 2, 4);
        Texts.fault("wet 9 9 10;", 2, 8);
        Texts.fault("wet 1 2 3 4 5 6 7 8 9;", 2, 20);
        Texts.fault("wet 1 2 3 4 5 6 7 8 99999;", 2, 20);
        Texts.fault("bound 0;", 2, 6);
        Texts.fault("bound 100;", 2, 6);
        Texts.fault("prays 10000;", 2, 6);
        Texts.fault("prays 00000;", 2, 6);
        Texts.fault("prays 1+(2*123456789012345678901234567890);", 2, 11);
        Texts.fault("grotto 1 0 0;".repeat(8) + "hollow x", 2, 104);
        Texts.fault("guild 1 0 0;".repeat(6) + "guild", 2, 72);
        Texts.fault("prays not not not not not not not 1;", 2, 30);
        Texts.fault("prays 1 or not not not not not not not not 1;", 2, 35);
    }

    private static void tooDeep() {
        Texts.fault("prays ((((((1))))));", 2, 12);
        Texts.fault("prays ((((((sin))))));", 2, 12);
        Texts.fault("prays ((((((word))))));", 2, 12);
        Texts.fault("prays ((((((greed))))));", 2, 12);
        Texts.fault("prays ((((((or))))));", 2, 12);
        Texts.fault("prays ((((((not 1))))));", 2, 12);
        Texts.fault("prays (((((((1)))))));", 2, 12);
        Texts.fault("prays ((((((99999))))));", 2, 12);
        Texts.fault("prays (((((())))));", 1, 12);
        Texts.fault("prays ((((((;", 1, 12);
        Texts.fault("prays ((((((+1))))));", 1, 12);
        Texts.fault("costs 1+(1+(1+(1+(1+(1+1)))));", 0, -1);
        Texts.fault("costs 1+(1+(1+(1+(1+(1+(1+1))))));", 2, 24);
        Texts.fault("costs (1)+(1)+(1)+(1)+(1)+(1)+(1)+(1);", 0, -1);
    }

    private static void unknown() {
        Texts.fault("prays greed;", 3, 6);
        Texts.fault("costs greed;", 0, -1);
        Texts.fault("prays 1+word;", 3, 8);
        Texts.fault("prays or;", 3, 6);
        Texts.fault("prays 1 and and 1;", 3, 12);
        Texts.fault("prays 1+not 1;", 3, 8);
        Texts.fault("prays 1<not 1;", 3, 8);
        Texts.fault("prays not or 1;", 3, 10);
        Texts.fault("prays guild;", 3, 6);
        Texts.fault("prays sins;", 3, 6);
        Texts.fault("prays z;", 3, 6);
        Texts.fault("prays 1+a;", 3, 8);
        Texts.fault("prays {;", 1, 6);
        Texts.fault("prays `;", 1, 6);
        Texts.fault("prays :;", 1, 6);
        Texts.fault("guild 1 1 1 hires 0;", 3, 18);
        Texts.fault("grotto 1 1 1;guild 1 1 1 hires 1;grotto 1 1 1;", 3, 31);
        Texts.fault("grotto 1 1 1;guild 1 1 1 hires 9999;", 3, 31);
    }

    private static void hiredAndTwice() {
        Texts.fault("grotto 1 1 1;guild 1 1 1 hires 0;guild 1 1 1 hires 0;", 4, 51);
        Texts.fault("grotto 1 1 1;guild 1 1 1 hires 0;guild 1 1 1 hires 1;", 3, 51);
        Texts.fault("wet 1;wet 1;", 5, 6);
        Texts.fault("bound 1;bound 1;", 5, 8);
        Texts.fault("prays 1;prays 1;", 5, 8);
        Texts.fault("costs 1;costs 1;", 5, 8);
        Texts.fault("prays 1;costs 1;wet 1;bound 1;costs", 5, 30);
    }

    private static void leastAndFirst() {
        Texts.fault("grotto 13 12 21;#", 2, 7);
        Texts.fault("grotto 1 # 99;", 1, 9);
        Texts.fault("prays 1;prays #;", 5, 8);
        Texts.fault("guild 1 1 1 hires 3;wet 1;wet 1;", 3, 18);
        Texts.fault("wet 1;wet", 5, 6);
    }
}
