/** Promise 10, dismiss: the GROTTO that it has, none if it has none. */
public final class Promise10DismissTest {
    public static void main(String[] args) {
        Check.runAll(Promise10DismissTest.class);
    }

    static void promise10TheGrottoItHas() {
        GrottoHours x = Texts.town(Edges.EIGHT_GROTTOES + "guild 1 1 9 hires 7;guild 1 1 9 hires 0;");
        Check.same("dismiss(0)", 7, x.dismiss(0));
        Check.same("it has none", -1, x.guild(0, 4));
        Check.same("it is free", -1, x.grotto(7, 5));
        Check.same("the other one's is not", 1, x.count(5));
        Check.same("dismiss(1)", 0, x.dismiss(1));
        Check.same("hired", 0, x.count(5));
        Check.same("acts", 2, x.count(9));
        Check.same("purse", 9, x.guild(0, 2));
        Check.isTrue("another may hire it", x.hire(1, 7));
    }

    static void promise10NoneIsRefused() {
        GrottoHours x = Texts.town("grotto 1 0 1;guild 1 1 1;guild 1 1 1 hires 0;");
        Facts.refused(x, 1, "dismiss(0)", -1, () -> x.dismiss(0));
        Check.same("dismiss(1)", 0, x.dismiss(1));
        Facts.refused(x, 1, "dismiss(1) again", -1, () -> x.dismiss(1));
        Check.same("one act alone was kept: undo()", 0, x.undo());
        Check.same("it has it again", 0, x.guild(1, 4));
    }

    static void promise10WhoCouldntPayHasNone() {
        GrottoHours x = Texts.town("grotto 1 0 1;guild 0 0 0 hires 0;");
        x.hours(1);
        Facts.refused(x, 1, "dismiss(0)", -1, () -> x.dismiss(0));
    }

    static void promise10NoSuchGuild() {
        GrottoHours x = Texts.town("grotto 1 0 1;guild 1 1 1;guild 1 1 1 hires 0;");
        for (int wrong : Edges.outside(0, 1)) {
            Check.noSuchElement("dismiss(" + wrong + ")", () -> x.dismiss(wrong));
        }
        Facts.noSuchElement(x, "dismiss(2)", () -> x.dismiss(2));
        Facts.noSuchElement(x, "dismiss(-1)", () -> x.dismiss(-1));
        GrottoHours six = Texts.town("grotto 1 0 1;" + "guild 1 1 1;".repeat(5) + "guild 1 1 1 hires 0;");
        Check.same("the last of six", 0, six.dismiss(5));
        Check.noSuchElement("the seventh", () -> six.dismiss(6));
    }
}
