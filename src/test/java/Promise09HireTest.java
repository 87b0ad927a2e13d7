/** Promise 9, hire: a GROTTO that isn't HIRED, in place of another one. */
public final class Promise09HireTest {
    public static void main(String[] args) {
        Check.runAll(Promise09HireTest.class);
    }

    private static final String TOWN = "grotto 1 0 1;grotto 1 0 2;guild 1 1 1;guild 1 1 1;";

    static void promise09AFreeOne() {
        GrottoHours x = Texts.town(TOWN);
        Check.isTrue("hire(0, 1)", x.hire(0, 1));
        Check.same("it has it", 1, x.guild(0, 4));
        Check.same("who has it", 0, x.grotto(1, 5));
        Check.same("hired", 2, x.count(5));
        Check.same("acts", 1, x.count(9));
        Check.same("nothing is paid", 1, x.guild(0, 2));
        Check.isTrue("hire(1, 0)", x.hire(1, 0));
        Check.same("hired", 3, x.count(5));
    }

    static void promise09OneThatAnotherHasIsRefused() {
        GrottoHours x = Texts.town(TOWN);
        x.hire(0, 1);
        Facts.refused(x, 1, "hire(1, 1)", 0, () -> Check.bit(x.hire(1, 1)));
        Check.same("no act was kept: undo()", 0, x.undo());
        Check.same("nobody has it", 0, x.count(5));
    }

    static void promise09OneThatItHasItselfIsRefused() {
        GrottoHours x = Texts.town(TOWN);
        x.hire(0, 1);
        Facts.refused(x, 1, "hire(0, 1)", 0, () -> Check.bit(x.hire(0, 1)));
        Check.same("no act was kept: undo()", 0, x.undo());
    }

    static void promise09WhoHasOneIsRefusedAnothersToo() {
        GrottoHours x = Texts.town("grotto 1 0 1;grotto 1 0 2;guild 1 1 1 hires 0;guild 1 1 1 hires 1;");
        Facts.refused(x, 1, "hire(0, 1)", 0, () -> Check.bit(x.hire(0, 1)));
        Facts.refused(x, 1, "hire(1, 0)", 0, () -> Check.bit(x.hire(1, 0)));
        Check.same("it keeps its own", 0, x.guild(0, 4));
    }

    static void promise09InPlaceOfAnotherOne() {
        GrottoHours x = Texts.town(TOWN);
        x.hire(0, 1);
        Check.isTrue("hire(0, 0)", x.hire(0, 0));
        Check.same("it has it", 0, x.guild(0, 4));
        Check.same("the other one is free", -1, x.grotto(1, 5));
        Check.same("hired", 1, x.count(5));
        Check.isTrue("hire(1, 1)", x.hire(1, 1));
        Check.same("undo()", 2, x.undo());
        Check.same("undo()", 1, x.undo());
        Check.same("the earlier one again", 1, x.guild(0, 4));
        Check.same("hired", 2, x.count(5));
    }

    static void promise09ADrainedOneCanBeHired() {
        GrottoHours x = Texts.town("wet 0;" + TOWN);
        x.drain(1, true);
        Check.isTrue("hire(0, 1)", x.hire(0, 1));
        Check.same("it has it", 1, x.guild(0, 4));
    }

    static void promise09WhoHasNothingCanHire() {
        GrottoHours x = Texts.town("grotto 1 0 20;guild 0 0 0;");
        Check.isTrue("hire(0, 0)", x.hire(0, 0));
        x.hours(1);
        Check.same("but can't pay", -1, x.guild(0, 4));
        Check.isTrue("it is free again", x.hire(0, 0));
    }

    static void promise09TheFirstAndTheLast() {
        GrottoHours x = Texts.town(Edges.EIGHT_GROTTOES + Edges.SIX_GUILDS);
        Check.isTrue("hire(5, 7)", x.hire(5, 7));
        Check.isTrue("hire(0, 0)", x.hire(0, 0));
        Check.same("hired", 129, x.count(5));
        Check.noSuchElement("hire(6, 1)", () -> Check.bit(x.hire(6, 1)));
        Check.noSuchElement("hire(1, 8)", () -> Check.bit(x.hire(1, 8)));
    }

    static void promise09NoSuchGuild() {
        GrottoHours x = Texts.town(TOWN);
        for (int wrong : Edges.outside(0, 1)) {
            Check.noSuchElement("hire(" + wrong + ", 0)", () -> Check.bit(x.hire(wrong, 0)));
            Check.noSuchElement("hire(" + wrong + ", 9)", () -> Check.bit(x.hire(wrong, 9)));
        }
        Facts.noSuchElement(x, "hire(2, 0)", () -> Check.bit(x.hire(2, 0)));
        Facts.noSuchElement(x, "hire(-1, 0)", () -> Check.bit(x.hire(-1, 0)));
        x.hire(0, 0);
        Facts.noSuchElement(x, "hire(2, 0), hired", () -> Check.bit(x.hire(2, 0)));
    }

    static void promise09NoSuchGrotto() {
        GrottoHours x = Texts.town(TOWN);
        for (int wrong : Edges.outside(0, 1)) {
            Check.noSuchElement("hire(0, " + wrong + ")", () -> Check.bit(x.hire(0, wrong)));
        }
        // -1 is what a GUILD without a GROTTO has: no such GROTTO all the same.
        Facts.noSuchElement(x, "hire(0, -1)", () -> Check.bit(x.hire(0, -1)));
        Facts.noSuchElement(x, "hire(0, 2)", () -> Check.bit(x.hire(0, 2)));
    }
}
