/** Promise 34, drought: how likely a SILENCE comes in 1 to 5 HOURS that are dry with 0 to 10 tenths. */
public final class Promise34DroughtTest {
    public static void main(String[] args) {
        Check.runAll(Promise34DroughtTest.class);
    }

    /** Where an hour is dry, sin grows by 5; where it's wet, the prayer keeps it. 71 is silent, 70 is not. */
    private static final String TOWN = "wet 5;grotto 1 0 0;guild 5 64 0 hires 0;guild 0 71 0;guild 0 70 0;";

    static void promise34SoManyOfAPowerOfTen() {
        GrottoHours x = Texts.town(TOWN);
        // A silence needs two dry hours of those that go by: 74 is more than 70.
        Check.same("one hour", 0, x.drought(0, 1, 5));
        Check.same("two of two", 9, x.drought(0, 2, 3));
        // Two or three dry ones of three: 3 * 9 * 7 + 27.
        Check.same("two of three", 216, x.drought(0, 3, 3));
        // All but none and one of four: 10000 - 2401 - 4 * 3 * 343.
        Check.same("two of four", 3483, x.drought(0, 4, 3));
        // 100000 - 16807 - 5 * 3 * 2401.
        Check.same("two of five", 47178, x.drought(0, 5, 3));
    }

    static void promise34AlwaysSilentIsAllOfIt() {
        GrottoHours x = Texts.town(TOWN);
        int all = 10;
        for (int hours = 1; hours <= 5; hours++) {
            for (int tenths = 0; tenths <= 10; tenths++) {
                Check.same("always silent", all, x.drought(1, hours, tenths));
                Check.same("never silent", 0, x.drought(2, hours, tenths));
            }
            all *= 10;
        }
    }

    static void promise34NoTenthAndAllTenths() {
        GrottoHours x = Texts.town(TOWN);
        Check.same("never dry", 0, x.drought(0, 5, 0));
        Check.same("always dry, one hour", 0, x.drought(0, 1, 10));
        Check.same("always dry, two hours", 100, x.drought(0, 2, 10));
        Check.same("always dry, five hours", 100000, x.drought(0, 5, 10));
        Check.same("one tenth", 1, x.drought(0, 2, 1));
        Check.same("nine tenths", 81, x.drought(0, 2, 9));
    }

    static void promise34OneToFiveHoursAreTaken() {
        GrottoHours x = Texts.town(TOWN);
        Check.same("one", 10, x.drought(1, 1, 5));
        Check.same("five", 100000, x.drought(1, 5, 5));
        for (int wrong : Edges.outside(1, 5)) {
            Check.illegalArgument("drought(0, " + wrong + ", 5)", () -> x.drought(0, wrong, 5));
            Check.illegalArgument("drought(2, " + wrong + ", 11)", () -> x.drought(2, wrong, 11));
        }
        Facts.illegalArgument(x, "drought(0, 0, 5)", () -> x.drought(0, 0, 5));
        Facts.illegalArgument(x, "drought(0, 6, 5)", () -> x.drought(0, 6, 5));
    }

    static void promise34ZeroToTenTenthsAreTaken() {
        GrottoHours x = Texts.town(TOWN);
        Check.same("none", 10, x.drought(1, 1, 0));
        Check.same("ten", 10, x.drought(1, 1, 10));
        for (int wrong : Edges.outside(0, 10)) {
            Check.illegalArgument("drought(0, 1, " + wrong + ")", () -> x.drought(0, 1, wrong));
            Check.illegalArgument("drought(1, 5, " + wrong + ")", () -> x.drought(1, 5, wrong));
        }
        Facts.illegalArgument(x, "drought(0, 1, -1)", () -> x.drought(0, 1, -1));
        Facts.illegalArgument(x, "drought(0, 1, 11)", () -> x.drought(0, 1, 11));
    }

    static void promise34NoSuchGuildComesFirst() {
        GrottoHours x = Texts.town(TOWN);
        for (int wrong : Edges.outside(0, 2)) {
            Check.noSuchElement("drought(" + wrong + ", 1, 1)", () -> x.drought(wrong, 1, 1));
            Check.noSuchElement("drought(" + wrong + ", 6, 1)", () -> x.drought(wrong, 6, 1));
            Check.noSuchElement("drought(" + wrong + ", 1, 11)", () -> x.drought(wrong, 1, 11));
        }
        Facts.noSuchElement(x, "drought(3, 0, -1)", () -> x.drought(3, 0, -1));
        GrottoHours six = Texts.town("guild 0 71 0;".repeat(6));
        Check.same("the last of six", 10, six.drought(5, 1, 1));
        Check.noSuchElement("the seventh", () -> six.drought(6, 1, 1));
    }

    static void promise34WetIsZeroOrNineWhateverIsTold() {
        // Told to be dry in each hour, but a wet one is 9: it prays all away.
        GrottoHours x = Texts.town("wet 0;grotto 1 0 0;guild 9 69 0 hires 0;prays (wet=9)*99;");
        Check.same("dry with 4 tenths", 4, x.drought(0, 1, 4));
        Check.same("told: silent at once", 1, x.first(0));
        GrottoHours y = Texts.town("wet 1;grotto 1 0 0;guild 9 69 0 hires 0;prays (wet=1)*99;");
        Check.same("a wet one is not 1", 10, y.drought(0, 1, 4));
        // A dry hour costs 50, and who can't pay has no prayer in the second: silent but if both are wet.
        GrottoHours z = Texts.town("grotto 2 1 0;guild 1 69 0 hires 0;costs (wet=0)*50;");
        Check.same("100 less 6 times 6", 64, z.drought(0, 2, 4));
    }

    static void promise34SilencesThatWereCountNot() {
        GrottoHours x = Texts.town("grotto 1 0 0;guild 0 81 500 hires 0;");
        x.hours(2);
        Check.same("two silences", 2, x.guild(0, 3));
        Check.same("71: a dry hour", 7, x.drought(0, 1, 7));
        x.hours(1);
        Check.same("66: never more", 0, x.drought(0, 5, 7));
    }

    static void promise34OneSilenceOfManyIsEnough() {
        // 76 is silent at once if it is dry; 71 too behind a wet one, if it is dry then; 66 never.
        GrottoHours x = Texts.town("grotto 1 0 0;guild 0 76 0 hires 0;");
        Check.same("one hour: 71 is silent even if it is wet", 10, x.drought(0, 1, 3));
        GrottoHours y = Texts.town("grotto 1 0 0;guild 0 75 0 hires 0;");
        Check.same("the first one dry", 300, y.drought(0, 3, 3));
    }

    static void promise34Where998Or999AreKept() {
        GrottoHours x = Edges.townInHour(998, "guild 0 99 0;guild 0 70 0;");
        Check.same("with 998", 10, x.drought(0, 1, 5));
        x.hours(1);
        Check.same("999 silences", 999, x.guild(0, 3));
        Check.same("with 999", 10, x.drought(0, 1, 5));
        Check.same("with 999, five hours", 100000, x.drought(0, 5, 5));
        Check.same("never silent", 0, x.drought(1, 5, 5));
    }

    static void promise34DrainedAndItsHours() {
        GrottoHours x = Texts.town(TOWN);
        x.drain(0, true);
        Check.same("a drained one prays not", 100, x.drought(0, 2, 0));
        // It prays in hours 1, 3 ..: the dry ones ahead of that matter not.
        GrottoHours y = Texts.town("grotto 2 1 0;guild 1 69 0 hires 0;bound 70;");
        Check.same("hour 1 is dry", 20, y.drought(0, 2, 2));
    }

    static void promise34ChangesNothing() {
        GrottoHours x = Texts.town("wet 3;grotto 1 0 9;guild 9 65 90 hires 0;");
        x.hours(1);
        Facts before = Facts.of(x);
        x.drought(0, 5, 5);
        before.areSo("drought", x);
    }
}
