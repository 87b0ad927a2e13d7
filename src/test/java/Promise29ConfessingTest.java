/** Promise 29, confessing: by how much SIN would be less behind 0 to 60 HOURS. */
public final class Promise29ConfessingTest {
    public static void main(String[] args) {
        Check.runAll(Promise29ConfessingTest.class);
    }

    static void promise29BehindNoHours() {
        GrottoHours x = Texts.town("guild 1 81 50;guild 1 80 50;guild 1 1 50;guild 1 0 50;guild 1 99 999;");
        Check.same("81 less 40", 41, x.confessing(0, 0));
        Check.same("80 less 40", 40, x.confessing(1, 0));
        Check.same("1 less 0", 1, x.confessing(2, 0));
        Check.same("0 less 0", 0, x.confessing(3, 0));
        Check.same("99 less 49", 50, x.confessing(4, 0));
    }

    static void promise29FiftyAreEnoughFortyNineAreNot() {
        GrottoHours x = Texts.town("guild 1 80 50;guild 1 80 49;guild 1 80 0;");
        Check.same("with 50", 40, x.confessing(0, 1));
        Check.same("with 49", 0, x.confessing(1, 1));
        Check.same("with 0", 0, x.confessing(2, 1));
        x.give(1, 1);
        Check.same("with one more", 40, x.confessing(1, 1));
    }

    static void promise29ZeroToSixtyAreTaken() {
        GrottoHours x = Texts.town("guild 1 60 50;guild 0 60 50;guild 1 60 49;bound 99;");
        Check.same("behind 59: 99 less 89", 10, x.confessing(0, 59));
        Check.same("behind 60: 99 less 90", 9, x.confessing(0, 60));
        Check.same("behind 60", 30, x.confessing(1, 60));
        for (int wrong : Edges.outside(0, 60)) {
            Check.illegalArgument("confessing(0, " + wrong + ")", () -> x.confessing(0, wrong));
            Check.illegalArgument("confessing(2, " + wrong + ") without 50", () -> x.confessing(2, wrong));
        }
        Facts.illegalArgument(x, "confessing(0, -1)", () -> x.confessing(0, -1));
        Facts.illegalArgument(x, "confessing(0, 61)", () -> x.confessing(0, 61));
    }

    static void promise29NoSuchGuildComesFirst() {
        GrottoHours x = Texts.town("guild 1 60 50;guild 0 60 50;");
        for (int wrong : Edges.outside(0, 1)) {
            for (int hours : new int[] {0, 60, -1, 61}) {
                Check.noSuchElement("confessing(" + wrong + ", " + hours + ")", () -> x.confessing(wrong, hours));
            }
        }
        Facts.noSuchElement(x, "confessing(2, 61)", () -> x.confessing(2, 61));
        GrottoHours six = Texts.town("guild 1 60 50;".repeat(6));
        Check.same("the last of six", 30, six.confessing(5, 1));
        Check.noSuchElement("the seventh", () -> six.confessing(6, 1));
    }

    static void promise29UntilBothAreAlike() {
        GrottoHours x = Texts.town("grotto 1 0 0;guild 9 81 50;guild 0 60 100 hires 0;");
        Check.same("behind 2", 41, x.confessing(0, 2));
        Check.same("behind 3: 99 at most", 32, x.confessing(0, 3));
        Check.same("behind 6", 5, x.confessing(0, 6));
        Check.same("behind 7", 0, x.confessing(0, 7));
        Check.same("behind 60", 0, x.confessing(0, 60));
        Check.same("30 is 0 behind six, 60 is 30", 30, x.confessing(1, 6));
        Check.same("30 is 0 still, 60 is 5", 5, x.confessing(1, 11));
        Check.same("both are 0", 0, x.confessing(1, 12));
    }

    static void promise29BelowZero() {
        // The 50 are missed: it must dismiss the grotto that would have prayed all away.
        GrottoHours x = Texts.town("grotto 1 0 20;guild 0 80 60 hires 0;prays (hour=1)*99;");
        Check.same("behind 1", 40, x.confessing(0, 1));
        Check.same("behind 2", -40, x.confessing(0, 2));
        // The prayer minds the purse: the most that it can be less.
        GrottoHours y = Texts.town("grotto 1 0 0;guild 0 1 50 hires 0;prays (49<purse)*99;");
        Check.same("1 less 0, or 0", 0, y.confessing(0, 1));
        GrottoHours z = Texts.town("grotto 1 0 0;guild 0 99 50 hires 0;bound 99;prays (49<purse)*99;");
        Check.same("49 instead of 0", -49, z.confessing(0, 1));
    }

    static void promise29JustFiftyAreMissed() {
        // It must pay 20 in the first hour to be prayed for in the second: 70 less 50 are just enough, 69 are not.
        String town = "grotto 1 0 20;guild 0 80 PURSE hires 0;prays (hour=1)*99;";
        Check.same("with 70", 0, Texts.town(town.replace("PURSE", "70")).confessing(0, 2));
        Check.same("with 69", -40, Texts.town(town.replace("PURSE", "69")).confessing(0, 2));
        // It must have no more than 20 then: 70 are just few enough, 71 are not.
        String other = "grotto 1 0 0;guild 0 80 PURSE hires 0;prays (purse<21)*99;";
        Check.same("with 70", 80, Texts.town(other.replace("PURSE", "70")).confessing(0, 1));
        Check.same("with 71", 40, Texts.town(other.replace("PURSE", "71")).confessing(0, 1));
    }

    static void promise29ByTheWetOfEachHour() {
        // Hours 1 and 3 are dry: half of 80 is 0 behind four prayers of 10, 80 is 40.
        GrottoHours x = Texts.town("wet 1 0;grotto 1 0 0;guild 0 80 50 hires 0;bound 99;prays 10;");
        int[] want = {40, 40, 40, 40, 40, 40, 40, 40, 40, 30, 30};
        for (int i = 0; i < want.length; i++) {
            Check.same("behind " + i, want[i], x.confessing(0, i));
        }
    }

    static void promise29ChangesNothing() {
        GrottoHours x = Texts.town("grotto 1 0 9;guild 9 65 90 hires 0;");
        x.hours(1);
        Facts before = Facts.of(x);
        x.confessing(0, 60);
        x.confessing(0, 0);
        before.areSo("confessing", x);
    }
}
