/** Promise 13, give: 1 to 100, to a PURSE of 999 at most. */
public final class Promise13GiveTest {
    public static void main(String[] args) {
        Check.runAll(Promise13GiveTest.class);
    }

    static void promise13OneToAHundred() {
        for (int much = 1; much <= 100; much++) {
            GrottoHours x = Texts.town("guild 1 7 30;guild 1 7 40;");
            Check.same("give(1, " + much + ")", 40 + much, x.give(1, much));
            Check.same("its purse", 40 + much, x.guild(1, 2));
            Check.same("the other one's", 30, x.guild(0, 2));
            Check.same("acts", 1, x.count(9));
        }
    }

    static void promise13OtherNumbersAreRefused() {
        for (int wrong : Edges.outside(1, 100)) {
            GrottoHours x = Texts.town("guild 1 7 30;guild 1 7 40;");
            x.give(0, 5);
            Facts.refused(x, 1, "give(1, " + wrong + ")", -1, () -> x.give(1, wrong));
            Check.same("no act was kept: undo()", 0, x.undo());
            Check.same("its purse", 30, x.guild(0, 2));
        }
    }

    static void promise13To999AtMost() {
        GrottoHours x = Texts.town("guild 1 1 898;");
        Check.same("give(0, 100)", 998, x.give(0, 100));
        Check.same("give(0, 1)", 999, x.give(0, 1));
        x.undo();
        Check.same("give(0, 2)", 999, x.give(0, 2));
        x.undo();
        Check.same("give(0, 100) more", 999, x.give(0, 100));
        Check.same("undo()", 1, x.undo());
        Check.same("its purse", 998, x.guild(0, 2));
    }

    static void promise13WhoHas999IsGivenAllTheSame() {
        GrottoHours x = Texts.town("guild 1 1 999;");
        Check.same("give(0, 1)", 999, x.give(0, 1));
        Check.same("an act", 1, x.count(9));
        Check.same("no refusal", 0, x.count(13));
        Check.same("undo()", 0, x.undo());
        Check.same("its purse", 999, x.guild(0, 2));
    }

    static void promise13NoSuchGuild() {
        GrottoHours x = Texts.town("guild 1 7 30;guild 1 7 40;");
        for (int wrong : Edges.outside(0, 1)) {
            Check.noSuchElement("give(" + wrong + ", 1)", () -> x.give(wrong, 1));
            // It comes ahead of a refusal.
            Check.noSuchElement("give(" + wrong + ", 0)", () -> x.give(wrong, 0));
            Check.noSuchElement("give(" + wrong + ", 101)", () -> x.give(wrong, 101));
        }
        Facts.noSuchElement(x, "give(2, 1)", () -> x.give(2, 1));
        Facts.noSuchElement(x, "give(-1, 0)", () -> x.give(-1, 0));
        GrottoHours six = Texts.town("guild 1 7 30;".repeat(6));
        Check.same("the last of six", 37, six.give(5, 7));
        Check.noSuchElement("the seventh", () -> six.give(6, 7));
    }
}
