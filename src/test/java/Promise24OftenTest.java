/** Promise 24, often: how often a GROTTO drips in 0 to 60 HOURS. */
public final class Promise24OftenTest {
    public static void main(String[] args) {
        Check.runAll(Promise24OftenTest.class);
    }

    static void promise24InNoHours() {
        Check.same("often(0, 0)", 0, Texts.town("grotto 1 0 0;").often(0, 0));
    }

    static void promise24ZeroToSixtyAreTaken() {
        GrottoHours x = Texts.town("grotto 1 0 0;grotto 12 1 0;");
        Check.same("often(0, 1)", 1, x.often(0, 1));
        Check.same("often(0, 59)", 59, x.often(0, 59));
        Check.same("often(0, 60)", 60, x.often(0, 60));
        Check.same("often(1, 11)", 0, x.often(1, 11));
        Check.same("often(1, 12)", 1, x.often(1, 12));
        Check.same("often(1, 59)", 4, x.often(1, 59));
        Check.same("often(1, 60)", 5, x.often(1, 60));
        for (int wrong : Edges.outside(0, 60)) {
            Check.illegalArgument("often(0, " + wrong + ")", () -> x.often(0, wrong));
            Check.illegalArgument("often(1, " + wrong + ")", () -> x.often(1, wrong));
        }
        Facts.illegalArgument(x, "often(0, 61)", () -> x.often(0, 61));
    }

    static void promise24NoSuchGrottoComesFirst() {
        GrottoHours x = Texts.town("grotto 1 0 0;grotto 12 1 0;");
        for (int wrong : Edges.outside(0, 1)) {
            for (int hours : new int[] {0, 60, -1, 61}) {
                Check.noSuchElement("often(" + wrong + ", " + hours + ")", () -> x.often(wrong, hours));
            }
        }
        Facts.noSuchElement(x, "often(2, 61)", () -> x.often(2, 61));
        GrottoHours all = Texts.town(Edges.EIGHT_GROTTOES);
        Check.same("the last of eight", 60, all.often(7, 60));
        Check.noSuchElement("the ninth", () -> all.often(8, 60));
    }

    static void promise24DryAndDrained() {
        GrottoHours x = Texts.town("wet 1 1 0;grotto 2 0 0;grotto 3 1 0;hollow 1 0 0;");
        Check.same("often(0, 6)", 2, x.often(0, 6));
        Check.same("often(0, 60)", 20, x.often(0, 60));
        Check.same("its hours are dry", 0, x.often(1, 60));
        Check.same("a hollow one drips once", 40, x.often(2, 60));
        x.hours(2);
        Check.same("often(0, 3) from hour 2", 1, x.often(0, 3));
        x.drain(0, true);
        Check.same("drained", 0, x.often(0, 60));
        Check.same("the other one", 40, x.often(2, 60));
        Check.same("always dry", 0, Texts.town("wet 0;grotto 1 0 0;").often(0, 60));
    }

    static void promise24FromHour999() {
        Check.same("hours 1000 to 1050", 6, Edges.townInHour(999, "grotto 10 0 0;").often(0, 60));
        Check.same("hour 999", 0, Edges.townInHour(999, "grotto 10 0 0;").often(0, 1));
        Check.same("hours 999, 1000", 1, Edges.townInHour(999, "grotto 10 0 0;").often(0, 2));
    }
}
