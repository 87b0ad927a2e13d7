/** Promise 11, confess: for 50 of PURSE, SIN is half, cut down. */
public final class Promise11ConfessTest {
    public static void main(String[] args) {
        Check.runAll(Promise11ConfessTest.class);
    }

    static void promise11FiftyAreEnough() {
        GrottoHours x = Texts.town("guild 1 80 50;guild 1 80 51;guild 1 80 999;");
        Check.same("with 50", 40, x.confess(0));
        Check.same("its purse", 0, x.guild(0, 2));
        Check.same("its sin", 40, x.guild(0, 1));
        Check.same("with 51", 40, x.confess(1));
        Check.same("its purse", 1, x.guild(1, 2));
        Check.same("with 999", 40, x.confess(2));
        Check.same("its purse", 949, x.guild(2, 2));
        Check.same("acts", 3, x.count(9));
    }

    static void promise11FortyNineAreNot() {
        GrottoHours x = Texts.town("guild 1 80 49;guild 1 80 0;");
        Facts.refused(x, 1, "confess(0)", -1, () -> x.confess(0));
        Facts.refused(x, 1, "confess(1)", -1, () -> x.confess(1));
        Check.same("undo()", -1, x.undo());
        x.give(0, 1);
        Check.same("with one more", 40, x.confess(0));
    }

    static void promise11HalfIsCutDown() {
        GrottoHours x = Texts.town("guild 1 99 999;");
        for (int sin : new int[] {49, 24, 12, 6, 3, 1, 0, 0}) {
            Check.same("confess(0)", sin, x.confess(0));
        }
        Check.same("eight times", 999 - 8 * 50, x.guild(0, 2));
    }

    static void promise11UntilThePurseIsOut() {
        GrottoHours x = Texts.town("guild 1 99 149;");
        Check.same("once", 49, x.confess(0));
        Check.same("twice", 24, x.confess(0));
        Facts.refused(x, 1, "confess(0) with 49", -1, () -> x.confess(0));
        Check.same("undo()", 1, x.undo());
        Check.same("its sin", 49, x.guild(0, 1));
        Check.same("its purse", 99, x.guild(0, 2));
    }

    static void promise11SinOfTheOthersStays() {
        GrottoHours x = Texts.town("guild 1 99 99;guild 2 88 88;");
        x.confess(0);
        Check.same("its sin", 88, x.guild(1, 1));
        Check.same("its purse", 88, x.guild(1, 2));
    }

    static void promise11NoSuchGuild() {
        GrottoHours x = Texts.town("guild 1 99 99;guild 2 88 8;");
        for (int wrong : Edges.outside(0, 1)) {
            Check.noSuchElement("confess(" + wrong + ")", () -> x.confess(wrong));
        }
        Facts.noSuchElement(x, "confess(2)", () -> x.confess(2));
        Facts.noSuchElement(x, "confess(-1)", () -> x.confess(-1));
        GrottoHours six = Texts.town("guild 1 99 99;".repeat(6));
        Check.same("the last of six", 49, six.confess(5));
        Check.noSuchElement("the seventh", () -> six.confess(6));
    }
}
