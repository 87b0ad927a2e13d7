/** Promise 21, chorus: the HOUR of 1 to 60 in which most drip. */
public final class Promise21ChorusTest {
    public static void main(String[] args) {
        Check.runAll(Promise21ChorusTest.class);
    }

    static void promise21WhereMostDrip() {
        GrottoHours x = Texts.town("wet 1 0;grotto 6 2 0;grotto 4 0 0;grotto 12 4 0;");
        // Grotto 0 in 4, 10, 16 ..; grotto 1 in 0, 4, 8 ..; grotto 2 in 8, 20 ..; odd hours are dry.
        Check.same("chorus(1)", 1, x.chorus(1));
        Check.same("chorus(4)", 1, x.chorus(4));
        Check.same("chorus(5)", 5, x.chorus(5));
        Check.same("chorus(60)", 5, x.chorus(60));
        x.hours(5);
        Check.same("chorus(5) from hour 5", 4, x.chorus(5));
    }

    static void promise21OneToSixtyAreTaken() {
        // In 3, 11, 19 .. 59; in 11, 23 .. 59; in 4, 9 .. 59: all three drip in hour 59 first.
        GrottoHours x = Texts.town("grotto 8 5 0;grotto 12 1 0;grotto 5 1 0;");
        for (int wrong : Edges.outside(1, 60)) {
            Facts.illegalArgument(x, "chorus(" + wrong + ")", () -> x.chorus(wrong));
        }
        Check.same("chorus(60)", 60, x.chorus(60));
        Check.same("chorus(59)", 12, x.chorus(59));
        Check.same("chorus(12)", 12, x.chorus(12));
        Check.same("chorus(11)", 4, x.chorus(11));
        Check.same("chorus(1)", 1, x.chorus(1));
    }

    static void promise21OfLikeOnesTheFirst() {
        GrottoHours x = Texts.town("grotto 3 1 0;grotto 3 1 0;");
        Check.same("chorus(2)", 1, x.chorus(2));
        Check.same("chorus(3)", 3, x.chorus(3));
        Check.same("chorus(60)", 3, x.chorus(60));
        Check.same("each hour", 1, Texts.town("grotto 1 0 0;").chorus(60));
    }

    static void promise21OfNothingTheFirst() {
        Check.same("no grottoes", 1, Texts.town("").chorus(60));
        Check.same("always dry", 1, Texts.town("wet 0;grotto 1 0 0;").chorus(60));
        GrottoHours drained = Texts.town("grotto 1 0 0;");
        drained.drain(0, true);
        Check.same("all drained", 1, drained.chorus(60));
        drained.hours(7);
        Check.same("from hour 7", 1, drained.chorus(60));
    }

    static void promise21HowManyNotHowHigh() {
        // Grotto 7 alone in hour 0, grottoes 0 and 1 in hour 1.
        Check.same("two, not the highest bit", 2,
            Texts.town("grotto 12 11 0;grotto 12 11 0;" + "grotto 12 5 0;".repeat(5) + "grotto 12 0 0;").chorus(2));
        Check.same("all eight", 60, Texts.town("grotto 12 1 0;grotto 11 7 0;" + "grotto 12 1 0;".repeat(6)).chorus(60));
    }

    static void promise21DryAndDrainedOnesDontCount() {
        GrottoHours x = Texts.town("wet 0 1;grotto 1 0 0;grotto 2 0 0;grotto 4 1 0;");
        Check.same("hour 3, not hour 0", 4, x.chorus(4));
        x.drain(2, true);
        Check.same("hour 1", 2, x.chorus(4));
    }

    static void promise21FromHour999() {
        Check.same("hour 1000", 2, Edges.townInHour(999, "grotto 10 0 0;grotto 1 0 0;").chorus(60));
    }
}
