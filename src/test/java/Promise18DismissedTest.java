/** Promise 18, dismissed: behind how many of 60 HOURS a GUILD hasn't its GROTTO any more. */
public final class Promise18DismissedTest {
    public static void main(String[] args) {
        Check.runAll(Promise18DismissedTest.class);
    }

    static void promise18BehindTheFirstHour() {
        Check.same("one too little", 1, Texts.town("grotto 1 0 20;guild 0 0 19 hires 0;").dismissed(0));
        Check.same("just enough for one", 2, Texts.town("grotto 1 0 20;guild 0 0 20 hires 0;").dismissed(0));
        Check.same("three, and one too little", 4, Texts.town("grotto 1 0 10;guild 0 0 39 hires 0;").dismissed(0));
    }

    static void promise18BehindThe60thButNotThe61st() {
        GrottoHours x = Texts.town("grotto 1 0 1;grotto 1 0 1;guild 0 0 59 hires 0;guild 0 0 60 hires 1;");
        Check.same("59 times 1", 60, x.dismissed(0));
        Check.same("60 times 1", -1, x.dismissed(1));
        x.hours(1);
        Check.same("an hour on", 59, x.dismissed(0));
        Check.same("an hour on", 60, x.dismissed(1));
    }

    static void promise18NoneWithoutAGrotto() {
        GrottoHours x = Texts.town("grotto 1 0 20;guild 0 0 0;guild 0 0 0 hires 0;");
        Check.same("it has none", -1, x.dismissed(0));
        Check.same("the other one", 1, x.dismissed(1));
        x.dismiss(1);
        Check.same("it has none any more", -1, x.dismissed(1));
        x.hire(0, 0);
        Check.same("it has one now", 1, x.dismissed(0));
    }

    static void promise18NeverWhereNothingIsPaid() {
        Check.same("no price", -1, Texts.town("grotto 1 0 0;guild 0 0 0 hires 0;").dismissed(0));
        Check.same("below 0", -1, Texts.town("grotto 1 0 20;guild 0 0 0 hires 0;costs 0-9;").dismissed(0));
        Check.same("what comes is enough", -1, Texts.town("grotto 1 0 3;guild 1 0 0 hires 0;").dismissed(0));
        Check.same("what comes isn't", 1, Texts.town("grotto 1 0 4;guild 1 0 0 hires 0;").dismissed(0));
    }

    static void promise18ByARule() {
        // It costs nothing until hour 59, the 60th, and until hour 60, the 61st.
        Check.same("the 60th", 60, Texts.town("grotto 1 0 0;guild 0 0 0 hires 0;costs 58<hour;").dismissed(0));
        Check.same("the 61st", -1, Texts.town("grotto 1 0 0;guild 0 0 0 hires 0;costs 59<hour;").dismissed(0));
        // A silence halves: 40, less 10, 15; less 10, 2; 2 isn't 10.
        Check.same("by silences", 3, Texts.town("grotto 1 0 10;guild 0 99 40 hires 0;prays 0;").dismissed(0));
    }

    static void promise18NoSuchGuild() {
        GrottoHours x = Texts.town("guild 0 71 0;guild 0 71 0;");
        for (int wrong : Edges.outside(0, 1)) {
            Facts.noSuchElement(x, "dismissed(" + wrong + ")", () -> x.dismissed(wrong));
        }
        GrottoHours six = Texts.town("grotto 1 0 1;" + "guild 0 71 0;".repeat(5) + "guild 0 71 0 hires 0;");
        Check.same("the last of six", 1, six.dismissed(5));
        Check.noSuchElement("the seventh", () -> six.dismissed(6));
    }
}
