/** Promise 35, game: which couples of choices rest, over the next 8 HOURS. */
public final class Promise35GameTest {
    public static void main(String[] args) {
        Check.runAll(Promise35GameTest.class);
    }

    private static void game(GrottoHours x, int guild, int other, int many, int first) {
        Check.same("game(" + guild + ", " + other + ", 0)", many, () -> x.game(guild, other, 0));
        Check.same("game(" + guild + ", " + other + ", 1)", first, () -> x.game(guild, other, 1));
    }

    private static void game(String text, int first) {
        game(Texts.town(text), 0, 1, 1, first);
    }

    static void promise35EachChooses() {
        // 0 is quiet in all hours, if it confesses, else in none; 1 is quiet but in the last one either way;
        // 2 can't confess and is always quiet; 3 is as 0; 4 is quiet in four hours, if it confesses, else in none.
        GrottoHours x = Texts.town("guild 1 86 50;guild 9 0 999;guild 0 0 0;guild 0 71 50;guild 9 62 50;");
        // 0 gains 40 - 6 - 21 by it, else 0 - 21.
        game(x, 0, 1, 1, 10);
        game(x, 1, 0, 1, 1);
        game(x, 2, 0, 1, 1);
        game(x, 1, 2, 1, 0);
        // Each gains 40 - 6 by it, else 0, less 24 or nothing by the other one's choice.
        game(x, 0, 3, 1, 11);
        // 4 gains 20 - 6 - 24 by it, else 0 - 24.
        game(x, 4, 2, 1, 10);
    }

    static void promise35WhoHas49Has0Alone() {
        game("guild 0 99 49;guild 0 99 49;", 0);
        game("guild 0 99 49;guild 0 99 50;", 1);
        game("guild 0 99 50;guild 0 99 49;", 10);
        game("guild 0 99 50;guild 0 99 50;", 11);
        game("guild 0 99 0;guild 0 99 999;", 1);
    }

    static void promise35OneQuietHourIsLessThanSixTwoAreMore() {
        // Confessed it has 58, 67, 76 .. behind the hours: so many of them are quiet by the bound.
        game("guild 9 99 99;guild 0 99 0;bound 57;", 0);
        game("guild 9 99 99;guild 0 99 0;bound 58;", 0);
        game("guild 9 99 99;guild 0 99 0;bound 66;", 0);
        game("guild 9 99 99;guild 0 99 0;bound 67;", 10);
        // So it is beside one that is always quiet: 24 are lost then either way.
        game("guild 9 99 99;guild 0 0 0;bound 58;", 0);
        game("guild 9 99 99;guild 0 0 0;bound 67;", 10);
        game("guild 9 99 99;guild 0 0 0;bound 76;", 10);
        // Two like ones: each gains 4 more by it, whatever the other one does.
        game("guild 9 99 99;guild 9 99 99;bound 67;", 11);
        game("guild 9 99 99;guild 9 99 99;bound 58;", 0);
    }

    static void promise35TheEighthHourCountsTheNinthDoesNot() {
        // Without it silent from the 7th hour on: two of eight; from the 8th on: one; from the 9th on: none.
        game("guild 1 64 50;guild 0 0 0;", 10);
        game("guild 1 63 50;guild 0 0 0;", 0);
        game("guild 1 62 50;guild 0 0 0;", 0);
        // The same from hour 5 on.
        GrottoHours x = Edges.townInHour(5, "guild 1 58 35;guild 1 59 35;guild 0 0 0;");
        game(x, 0, 2, 1, 0);
        game(x, 1, 2, 1, 10);
    }

    static void promise35WhoIsQuietAnywayDoesNotConfess() {
        game("guild 0 70 999;guild 0 0 999;", 0);
        game("guild 9 99 999;guild 9 99 999;bound 99;", 0);
    }

    static void promise35WhoIsNeverQuietDoesNotConfess() {
        game("guild 0 99 999;guild 0 99 999;bound 1;", 0);
        game("guild 9 99 999;guild 0 0 0;bound 1;", 0);
    }

    static void promise35TheFirstOnesChoiceByTen() {
        GrottoHours x = Texts.town("guild 0 99 50;guild 0 0 50;");
        game(x, 0, 1, 1, 10);
        game(x, 1, 0, 1, 1);
    }

    static void promise35ThePurseThatIsMissed() {
        // 50 are paid in hour 0 alone, and 60 are prayed away in hour 1. Who confesses can't pay, and has no prayer:
        // 49, 58, 67, then silent: three quiet hours. Else 89, then 38, 47, 56, 65, then silent: four.
        game("grotto 1 0 0;guild 9 80 50 hires 0;guild 0 0 0;prays (hour=1)*60;costs (hour=0)*50;", 0);
    }

    static void promise35JustFiftyAreMissed() {
        // Who has 20 or less is prayed for. With 70 that is at once, if it confesses, else behind two silences;
        // with 71 behind one, if it confesses: one quiet hour more is worth less than the 6.
        String town = "grotto 1 0 0;guild 0 99 PURSE hires 0;guild 0 0 0;bound 1;prays (purse<21)*99;";
        game(town.replace("PURSE", "70"), 10);
        game(town.replace("PURSE", "71"), 0);
    }

    static void promise35ByTheWetOfEachHour() {
        // 10 less and 9 more in a wet hour, 9 more in a dry one: from 70 on it falls until a dry one makes it silent.
        String town = "grotto 1 0 0;guild 9 70 50 hires 0;guild 0 0 0;prays 10;wet ";
        game(town + "9 9 9 9 9 9 9 9;", 0);
        game(town + "9 9 9 0;", 10);
        // Two silences, in the 7th and the 8th hour; one, in the 8th.
        game(town + "9 9 9 9 9 9 0;", 10);
        game(town + "9 9 9 9 9 9 9 0;", 0);
    }

    static void promise35AnotherWhatComesFirst() {
        GrottoHours x = Texts.town("guild 0 99 50;guild 0 0 50;");
        for (int wrong : Edges.outside(0, 1)) {
            Check.noSuchElement("game(0, 1, " + wrong + ")", () -> x.game(0, 1, wrong));
            Check.noSuchElement("game(0, 0, " + wrong + ")", () -> x.game(0, 0, wrong));
        }
        Facts.noSuchElement(x, "game(1, 1, 2)", () -> x.game(1, 1, 2));
    }

    static void promise35NoSuchGuildComesFirst() {
        GrottoHours x = Texts.town("guild 0 99 50;guild 0 0 50;");
        for (int wrong : Edges.outside(0, 1)) {
            Check.noSuchElement("game(" + wrong + ", 0, 0)", () -> x.game(wrong, 0, 0));
            Check.noSuchElement("game(0, " + wrong + ", 0)", () -> x.game(0, wrong, 0));
            Check.noSuchElement("game(" + wrong + ", " + wrong + ", 0)", () -> x.game(wrong, wrong, 0));
        }
        Facts.noSuchElement(x, "game(2, 2, 0)", () -> x.game(2, 2, 0));
        GrottoHours six = Texts.town("guild 0 99 50;".repeat(6));
        game(six, 5, 0, 1, 11);
        game(six, 0, 5, 1, 11);
        Check.noSuchElement("the seventh", () -> six.game(0, 6, 0));
    }

    static void promise35BothAreOne() {
        GrottoHours x = Texts.town("guild 0 99 50;guild 0 0 50;");
        Facts.illegalArgument(x, "game(0, 0, 0)", () -> x.game(0, 0, 0));
        Facts.illegalArgument(x, "game(1, 1, 1)", () -> x.game(1, 1, 1));
    }

    static void promise35Where999SilencesAreKept() {
        GrottoHours x = Edges.townInHour(999, "guild 0 99 0;guild 0 0 0;");
        Check.same("999 silences", 999, x.guild(0, 3));
        x.give(0, 50);
        game(x, 0, 1, 1, 10);
    }

    static void promise35ChangesNothing() {
        GrottoHours x = Texts.town("grotto 1 0 9;guild 9 65 90 hires 0;guild 0 99 50;");
        x.hours(1);
        Facts before = Facts.of(x);
        x.game(0, 1, 0);
        x.game(1, 0, 1);
        before.areSo("game", x);
    }
}
