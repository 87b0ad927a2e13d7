/** Promise 19, most: RICHEST and WORST behind 0 to 60 HOURS. */
public final class Promise19MostTest {
    public static void main(String[] args) {
        Check.runAll(Promise19MostTest.class);
    }

    static void promise19RichestAndWorst() {
        GrottoHours x = Texts.town("guild 1 20 90;guild 2 20 90;guild 3 10 100;guild 3 10 100;");
        Check.same("most(0, 0)", 2, x.most(0, 0));
        Check.same("most(0, 1)", 0, x.most(0, 1));
        Check.same("most(1, 1)", 1, x.most(1, 1));
        Check.same("most(10, 1)", 1, x.most(10, 1));
        Check.same("most(11, 1)", 2, x.most(11, 1));
    }

    static void promise19OfLikeOnesTheLeast() {
        GrottoHours x = Texts.town("guild 0 5 7;".repeat(6));
        Check.same("richest", 0, x.most(60, 0));
        Check.same("worst", 0, x.most(60, 1));
        GrottoHours y = Texts.town("guild 0 5 7;" + "guild 0 6 8;".repeat(5));
        Check.same("richest", 1, y.most(60, 0));
        Check.same("worst", 1, y.most(60, 1));
        GrottoHours z = Texts.town("guild 0 5 7;".repeat(5) + "guild 0 6 8;");
        Check.same("the last is richest", 5, z.most(0, 0));
        Check.same("the last is worst", 5, z.most(0, 1));
    }

    static void promise19OfNothingTheLeast() {
        GrottoHours x = Texts.town("guild 0 0 0;guild 0 0 0;");
        Check.same("richest", 0, x.most(0, 0));
        Check.same("worst", 0, x.most(0, 1));
    }

    static void promise19NoneWithoutGuilds() {
        GrottoHours x = Texts.town("grotto 1 0 0;");
        Check.same("richest", -1, x.most(0, 0));
        Check.same("worst", -1, x.most(60, 1));
        Check.illegalArgument("most(61, 0)", () -> x.most(61, 0));
        Check.noSuchElement("most(61, 2)", () -> x.most(61, 2));
    }

    static void promise19ZeroToSixtyAreTaken() {
        // Guild 1 has more sin than 0 only behind 60 hours.
        GrottoHours x = Texts.town("guild 0 59 59;guild 1 0 0;bound 99;");
        Check.same("worst behind 59", 0, x.most(59, 1));
        Check.same("worst behind 60", 1, x.most(60, 1));
        Check.same("richest behind 19", 0, x.most(19, 0));
        Check.same("richest behind 20", 1, x.most(20, 0));
        Check.same("worst behind none", 0, x.most(0, 1));
        for (int wrong : Edges.outside(0, 60)) {
            Check.illegalArgument("most(" + wrong + ", 0)", () -> x.most(wrong, 0));
            Check.illegalArgument("most(" + wrong + ", 1)", () -> x.most(wrong, 1));
        }
        Facts.illegalArgument(x, "most(61, 0)", () -> x.most(61, 0));
    }

    static void promise19AnotherWhatComesFirst() {
        GrottoHours x = Texts.town("guild 0 59 0;guild 1 0 0;");
        for (int wrong : Edges.outside(0, 1)) {
            for (int hours : new int[] {0, 60, -1, 61}) {
                Check.noSuchElement("most(" + hours + ", " + wrong + ")", () -> x.most(hours, wrong));
            }
        }
        Facts.noSuchElement(x, "most(0, 2)", () -> x.most(0, 2));
    }

    static void promise19ChangesNothing() {
        GrottoHours x = Texts.town("grotto 1 0 9;guild 9 65 20 hires 0;guild 1 2 3;");
        x.hours(1);
        Facts before = Facts.of(x);
        x.most(60, 0);
        x.most(60, 1);
        before.areSo("most", x);
    }
}
