/** Promise 20, hush: the longest row of HOURS of 1 to 60 in which nothing drips. */
public final class Promise20HushTest {
    public static void main(String[] args) {
        Check.runAll(Promise20HushTest.class);
    }

    static void promise20RowsOfSome() {
        GrottoHours x = Texts.town("wet 1 0;grotto 6 2 0;grotto 4 0 0;grotto 12 4 0;");
        // Grotto 0 in 4, 10, 16 ..; grotto 1 in 0, 4, 8 ..; grotto 2 in 8, 20 ..; odd hours are dry.
        int[] want = {0, 1, 2, 3, 3, 3, 3, 3};
        for (int i = 0; i < want.length; i++) {
            int hours = i + 1;
            Check.same("hush(" + hours + ")", want[i], () -> x.hush(hours));
        }
        Check.same("hush(60)", 3, x.hush(60));
        x.hours(5);
        Check.same("hush(3) from hour 5", 3, x.hush(3));
    }

    static void promise20OneToSixtyAreTaken() {
        GrottoHours x = Texts.town("grotto 12 0 0;");
        Check.same("hush(1)", 0, x.hush(1));
        Check.same("hush(2)", 1, x.hush(2));
        Check.same("hush(12)", 11, x.hush(12));
        Check.same("hush(60)", 11, x.hush(60));
        for (int wrong : Edges.outside(1, 60)) {
            Facts.illegalArgument(x, "hush(" + wrong + ")", () -> x.hush(wrong));
        }
    }

    static void promise20NothingEverDrips() {
        for (GrottoHours x : new GrottoHours[] {Texts.town(""), Texts.town("wet 0;grotto 1 0 0;")}) {
            Check.same("hush(1)", 1, x.hush(1));
            Check.same("hush(59)", 59, x.hush(59));
            Check.same("hush(60)", 60, x.hush(60));
        }
        GrottoHours drained = Texts.town("grotto 1 0 0;");
        drained.drain(0, true);
        Check.same("all drained", 60, drained.hush(60));
    }

    static void promise20SomethingAlwaysDrips() {
        GrottoHours x = Texts.town("grotto 2 0 0;grotto 2 1 0;");
        Check.same("hush(1)", 0, x.hush(1));
        Check.same("hush(60)", 0, x.hush(60));
    }

    static void promise20TheFirstRowOrTheLast() {
        // Hour 2 drips, and 14 ..: two hours ahead of it, then up to eleven.
        GrottoHours x = Texts.town("grotto 12 10 0;");
        Check.same("the first row", 2, x.hush(3));
        Check.same("as long", 2, x.hush(5));
        Check.same("the last row", 3, x.hush(6));
        Check.same("the last row", 11, x.hush(14));
        // Only the last of 60 is quiet: hour 59 is the one that is dry, but for 7, 15 ...
        GrottoHours y = Edges.townInHour(1, "wet 1 1 1 1 0;grotto 1 0 0;");
        Check.same("dry in hour 4", 0, y.hush(3));
        Check.same("dry in hour 4", 1, y.hush(4));
    }

    static void promise20TheRowIsCutByItsEnds() {
        GrottoHours x = Texts.town("wet 0 0 0 1 0 0 0 0;grotto 1 0 0;");
        Check.same("hush(3)", 3, x.hush(3));
        Check.same("hush(7)", 3, x.hush(7));
        Check.same("hush(8)", 4, x.hush(8));
        // Behind hour 7 it goes round: 4 5 6 7 and 8 9 10.
        Check.same("hush(10)", 6, x.hush(10));
        Check.same("hush(11)", 7, x.hush(11));
        Check.same("hush(60)", 7, x.hush(60));
    }

    static void promise20FromHour999() {
        // Hours 999, 1000 and 1001: 1000 drips.
        Check.same("hush(1)", 1, Edges.townInHour(999, "grotto 10 0 0;").hush(1));
        Check.same("hush(2)", 1, Edges.townInHour(999, "grotto 10 0 0;").hush(2));
        Check.same("hush(60)", 9, Edges.townInHour(999, "grotto 10 0 0;").hush(60));
    }
}
