/** Promise 16, dripping: what drips in the 1st to the 60th HOUR from now, as bits. */
public final class Promise16DrippingTest {
    public static void main(String[] args) {
        Check.runAll(Promise16DrippingTest.class);
    }

    static void promise16HourByHour() {
        GrottoHours x = Texts.town("wet 1 1 1 0;grotto 1 0 0;grotto 2 1 0;grotto 12 9 0;");
        int[] want = {1, 3, 1, 0, 1, 3, 1, 0};
        for (int i = 0; i < want.length; i++) {
            int k = i + 1;
            Check.same("dripping(" + k + ")", want[i], () -> x.dripping(k));
        }
        // Grotto 2 comes round in hours 3, 15, 27, 39, 51, which are dry.
        Check.same("dripping(52)", 0, x.dripping(52));
        x.hours(1);
        Check.same("dripping(1) in hour 1", 3, x.dripping(1));
        Check.same("dripping(60) in hour 1", 1, x.dripping(60));
    }

    static void promise16OneToSixtyAreTaken() {
        GrottoHours x = Texts.town("grotto 12 0 0;grotto 12 1 0;");
        Check.same("dripping(1)", 1, x.dripping(1));
        Check.same("dripping(49), hour 48", 1, x.dripping(49));
        Check.same("dripping(59), hour 58", 0, x.dripping(59));
        Check.same("dripping(60), hour 59", 2, x.dripping(60));
        for (int wrong : Edges.outside(1, 60)) {
            Facts.illegalArgument(x, "dripping(" + wrong + ")", () -> x.dripping(wrong));
        }
    }

    static void promise16BitsOfAllEight() {
        GrottoHours x = Texts.town(Edges.EIGHT_GROTTOES);
        Check.same("all", 255, x.dripping(60));
        x.drain(0, true);
        Check.same("all but the first", 254, x.dripping(1));
        x.drain(7, true);
        Check.same("all but the last, too", 126, x.dripping(1));
        Check.same("the last alone", 128, Texts.town("grotto 2 1 0;".repeat(7) + "grotto 2 0 0;").dripping(1));
    }

    static void promise16NothingIsTold() {
        Check.same("no grottoes", 0, Texts.town("guild 1 1 1;").dripping(1));
    }

    static void promise16DryHours() {
        GrottoHours x = Texts.town("wet 0 9;grotto 1 0 0;");
        Check.same("dripping(1)", 0, x.dripping(1));
        Check.same("dripping(2)", 1, x.dripping(2));
        Check.same("dripping(59)", 0, x.dripping(59));
        Check.same("dripping(60)", 1, x.dripping(60));
        x.hours(1);
        Check.same("dripping(1) in hour 1", 1, x.dripping(1));
    }

    static void promise16WhetherHiredOrNot() {
        GrottoHours x = Texts.town("grotto 1 0 9;grotto 1 0 9;guild 0 0 0 hires 0;");
        Check.same("both", 3, x.dripping(1));
        Check.same("also where it is dismissed", 3, x.dripping(2));
    }

    static void promise16GoesOnBehindHour999() {
        GrottoHours x = Edges.townInHour(999, "wet 0 1 2 3 4 5 6 7;grotto 10 0 0;");
        // Hours 1000 (dry), 1010, 1020, 1030, 1040 (dry), 1050.
        int[] want = {0, 0, 1, 1, 1, 0, 1};
        for (int i = 1; i < want.length; i++) {
            Check.same("hour " + (990 + 10 * i), want[i], x.dripping(10 * i - 8));
        }
        Check.same("hour 1058", 0, x.dripping(60));
    }
}
