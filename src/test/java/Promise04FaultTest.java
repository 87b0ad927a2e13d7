/** Promise 4, fault: the place of the latest port's FAULT, none without. */
public final class Promise04FaultTest {
    public static void main(String[] args) {
        Check.runAll(Promise04FaultTest.class);
    }

    static void promise04NoneAheadOfAnyPort() {
        Check.same("fault()", -1, new GrottoHours().fault());
    }

    static void promise04NoneBehindAPortWithout() {
        GrottoHours x = new GrottoHours();
        Check.same("a fault", 1, Texts.port(x, "bound 5;#"));
        Check.same("fault()", 8, x.fault());
        Check.same("no fault", 0, Texts.port(x, "bound 5;"));
        Check.same("fault()", -1, x.fault());
    }

    static void promise04OfTheLatestPort() {
        GrottoHours x = new GrottoHours();
        Texts.port(x, "bound 5;#");
        Texts.port(x, "  #");
        Check.same("the latest place", 2, x.fault());
        Texts.port(x, "bound 5;bound 6; ;");
        Check.same("the latest place", 8, x.fault());
    }

    static void promise04AtTheFirstByte() {
        Texts.fault("#", 1, 0);
    }

    static void promise04AtTheLastByteOf700() {
        Texts.fault(" ".repeat(699) + "#", 1, 699);
    }

    static void promise04AtTheTextsLengthWhereItEndsTooSoon() {
        Texts.fault(" ".repeat(695) + "bound", 1, 700);
        Texts.fault("bound" + " ".repeat(695), 1, 700);
        GrottoHours x = new GrottoHours();
        Texts.feed(x, "bound 7;");
        Check.same("port(5)", 1, x.port(5));
        Check.same("the length is what was ported, not the tape's", 5, x.fault());
    }

    static void promise04StaysOverAPortThatThrows() {
        GrottoHours x = new GrottoHours();
        Texts.port(x, "bound 5;#");
        Check.illegalArgument("port(1)", () -> x.port(1));
        Check.same("fault()", 8, x.fault());
        Check.illegalArgument("port(-1)", () -> x.port(-1));
        Check.same("fault()", 8, x.fault());
    }

    static void promise04StaysOverAllOtherCalls() {
        GrottoHours x = Texts.town("grotto 1 0 0;guild 1 50 100 hires 0;");
        x.image();
        Texts.port(x, "bound 5;#");
        x.hours(2);
        x.undo();
        x.hours(0);
        Texts.feed(x, "bound 5;");
        Check.same("fault()", 8, x.fault());
        Check.isTrue("restore()", x.restore());
        Check.same("an image has no place of a fault", 8, x.fault());
    }
}
