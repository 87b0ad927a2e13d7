/** Promises 25 to 29: toHire, shared, has, toGive, confessing. */
public final class BestTest {
    public static void main(String[] args) {
        toHire();
        toHireByRules();
        shared();
        sharedLikeOnes();
        toGive();
        toGiveByPurse();
        confessing();
        Check.end();
    }

    private static void toHire() {
        GrottoHours x = Texts.town("grotto 4 0 0;grotto 2 0 0;hollow 4 0 0;grotto 1 0 0;guild 1 50 10 hires 1;"
            + "guild 1 50 10 hires 3;guild 1 50 10;");
        // In 4 hours grotto 0 prays once, 1 twice, 2 twice (it is hollow); 3 has been hired by guild 1.
        Check.same("toHire(0, 4, 0)", 1, x.toHire(0, 4, 0));
        Check.same("toHire(0, 4, 1)", 44, x.toHire(0, 4, 1));
        Check.same("toHire(0, 1, 0)", 2, x.toHire(0, 1, 0));
        Check.same("toHire(1, 60, 0)", 3, x.toHire(1, 60, 0));
        Check.same("toHire(1, 5, 1)", 30, x.toHire(1, 5, 1));
        Check.same("toHire(2, 4, 0)", 2, x.toHire(2, 4, 0));
        Check.same("toHire(2, 4, 1)", 44, x.toHire(2, 4, 1));
        x.drain(2, true);
        Check.same("toHire(2, 4, 0), one drained", 0, x.toHire(2, 4, 0));
        Check.same("toHire(2, 4, 1), one drained", 49, x.toHire(2, 4, 1));
        x.drain(0, true);
        Check.same("toHire(2, 4, 0), of like ones", 0, x.toHire(2, 4, 0));
        Check.same("it hasn't hired it", -1, x.guild(2, 4));
        for (int wrong : new int[] {-1, 0, 61, Integer.MAX_VALUE}) {
            Check.illegalArgument("toHire(0, " + wrong + ", 0)", () -> x.toHire(0, wrong, 0));
            Check.noSuchElement("toHire(3, " + wrong + ", 0)", () -> x.toHire(3, wrong, 0));
            Check.noSuchElement("toHire(0, " + wrong + ", 2)", () -> x.toHire(0, wrong, 2));
        }
        Check.noSuchElement("toHire(-1, 1, 0)", () -> x.toHire(-1, 1, 0));
        Check.noSuchElement("toHire(0, 1, -1)", () -> x.toHire(0, 1, -1));
        GrottoHours taken = Texts.town("grotto 1 0 0;guild 1 1 1 hires 0;guild 1 1 1;");
        Check.same("toHire without any", -1, taken.toHire(1, 5, 0));
        Check.same("toHire without any", -1, taken.toHire(1, 5, 1));
    }

    private static void toHireByRules() {
        // The dear one is dismissed in the first hour, but has prayed all away by then; 1 comes each hour.
        GrottoHours x = Texts.town("grotto 2 0 1;grotto 1 0 20;guild 1 50 10;prays price*3+drip;");
        Check.same("toHire(0, 3, 0)", 1, x.toHire(0, 3, 0));
        Check.same("toHire(0, 3, 1)", 3, x.toHire(0, 3, 1));
        x.drain(1, true);
        Check.same("toHire(0, 3, 0), one drained", 0, x.toHire(0, 3, 0));
        Check.same("toHire(0, 3, 1), one drained: twice 5", 43, x.toHire(0, 3, 1));
    }

    private static void shared() {
        GrottoHours x = Texts.town("grotto 1 0 10;grotto 1 0 5;grotto 1 0 7;guild 0 0 100;guild 0 0 69;guild 0 0 50;");
        // Guild 2 can have the one of 5 alone, guild 1 not that of 7 (70), so one of them has none.
        Check.same("shared(0)", 2, x.shared(0));
        Check.same("shared(1)", 12, x.shared(1));
        Check.same("has(0)", 2, x.has(0));
        Check.same("has(1)", 1, x.has(1));
        Check.same("has(2)", -1, x.has(2));
        x.give(1, 1);
        Check.same("shared(0) with 70", 3, x.shared(0));
        Check.same("shared(1) with 70", 22, x.shared(1));
        Check.same("has(0)", 0, x.has(0));
        Check.same("has(1)", 2, x.has(1));
        Check.same("has(2)", 1, x.has(2));
        x.hire(1, 1);
        x.drain(1, true);
        Check.same("all are free", 1, x.has(2));
        Check.noSuchElement("shared(-1)", () -> x.shared(-1));
        Check.noSuchElement("shared(2)", () -> x.shared(2));
        Check.noSuchElement("has(3)", () -> x.has(3));
        Check.noSuchElement("has(-1)", () -> x.has(-1));
        GrottoHours none = Texts.town("guild 1 1 999;");
        Check.same("shared(0) without grottoes", 0, none.shared(0));
        Check.same("shared(1) without grottoes", 0, none.shared(1));
        Check.same("has(0) without grottoes", -1, none.has(0));
        GrottoHours poor = Texts.town("grotto 1 0 1;grotto 1 0 0;guild 1 1 9;guild 1 1 0;");
        Check.same("shared(0) of the poor", 1, poor.shared(0));
        Check.same("shared(1) of the poor", 0, poor.shared(1));
        Check.same("has(0) of the poor", 1, poor.has(0));
        Check.same("has(1) of the poor", -1, poor.has(1));
    }

    private static void sharedLikeOnes() {
        GrottoHours x = Texts.town("grotto 1 0 3;".repeat(8) + "guild 0 0 999;".repeat(6));
        for (int guild = 0; guild < 6; guild++) {
            Check.same("has of like ones", guild, x.has(guild));
        }
        Check.same("shared(0) of like ones", 6, x.shared(0));
        Check.same("shared(1) of like ones", 18, x.shared(1));
        GrottoHours y = Texts.town("grotto 1 0 5;grotto 1 0 3;grotto 1 0 3;guild 0 0 50;guild 0 0 30;guild 0 0 30;");
        // Guild 0 must take the dear one, so that all have one.
        Check.same("has(0)", 0, y.has(0));
        Check.same("has(1)", 1, y.has(1));
        Check.same("has(2)", 2, y.has(2));
        // None is behind all: the first guild has the one grotto, not the second.
        GrottoHours z = Texts.town("grotto 1 0 3;guild 0 0 30;guild 0 0 30;");
        Check.same("has(0) of one", 0, z.has(0));
        Check.same("has(1) of one", -1, z.has(1));
    }

    private static void toGive() {
        GrottoHours x = Texts.town("grotto 1 0 10;grotto 1 0 20;guild 1 0 500 hires 0;guild 0 0 0 hires 1;guild 1 1 1;");
        // It pays 10 and gains 3 each hour: 7 for each of them.
        Check.same("toGive(0, 1)", 7, x.toGive(0, 1));
        Check.same("toGive(0, 10)", 70, x.toGive(0, 10));
        Check.same("toGive(0, 60)", 420, x.toGive(0, 60));
        Check.same("toGive(1, 49)", 980, x.toGive(1, 49));
        Check.same("toGive(1, 50)", -1, x.toGive(1, 50));
        Check.same("toGive(2, 1) without a grotto", -1, x.toGive(2, 1));
        for (int wrong : new int[] {-1, 0, 61, Integer.MAX_VALUE}) {
            Check.illegalArgument("toGive(0, " + wrong + ")", () -> x.toGive(0, wrong));
            Check.illegalArgument("toGive(2, " + wrong + ")", () -> x.toGive(2, wrong));
            Check.noSuchElement("toGive(3, " + wrong + ")", () -> x.toGive(3, wrong));
        }
        Check.noSuchElement("toGive(-1, 1)", () -> x.toGive(-1, 1));
        Check.same("its purse stays", 500, x.guild(0, 2));
        // A cost of 999 hours: the most that it can have is just enough.
        GrottoHours y = Texts.town("grotto 1 0 0;guild 0 0 0 hires 0;costs (hour<19)*50+(hour=19)*49;");
        Check.same("toGive(0, 20)", 999, y.toGive(0, 20));
        Check.same("toGive(0, 60)", 999, y.toGive(0, 60));
        GrottoHours silent = Texts.town("grotto 1 0 10;guild 0 90 0 hires 0;prays 0;");
        // Each hour pays 10 and leaves half: 10, then 30, then 70.
        Check.same("toGive(0, 1), silent", 10, silent.toGive(0, 1));
        Check.same("toGive(0, 2), silent", 30, silent.toGive(0, 2));
        Check.same("toGive(0, 3), silent", 70, silent.toGive(0, 3));
    }

    private static void toGiveByPurse() {
        // Who has much pays much: from 60 on it costs 50, so that 10 is left for the second hour, where it costs 20.
        GrottoHours x = Texts.town("grotto 1 0 0;guild 0 0 0 hires 0;"
            + "costs (hour=0)*(59<purse)*50+(hour=1)*20+(hour=0)*(purse<20)*50;");
        Check.same("toGive(0, 1)", 20, x.toGive(0, 1));
        Check.same("toGive(0, 2)", 20, x.toGive(0, 2));
        GrottoHours y = Texts.town("grotto 1 0 0;guild 0 0 0 hires 0;costs (purse<300 or 400<purse)*50;bound 99;");
        Check.same("toGive(0, 6): 300 costs nothing", 300, y.toGive(0, 7));
        Check.same("toGive(0, 5)", 250, y.toGive(0, 5));
        Check.same("toGive(0, 1) of nothing", 0, Texts.town("grotto 1 0 0;guild 0 0 9 hires 0;costs purse;").toGive(0, 1));
        Check.same("toGive(0, 1) of all", 999, Texts.town("grotto 1 0 0;guild 0 0 9 hires 0;costs (hour<19)*50+"
            + "(hour=19)*49+(purse<0);").toGive(0, 20));
        Check.same("toGive(0, 9) without a price", 0, Texts.town("grotto 1 0 0;guild 0 0 9 hires 0;").toGive(0, 9));
        // Here prayers mind purse: without sin there is no silence to halve it.
        GrottoHours z = Texts.town("grotto 1 0 10;guild 1 70 0 hires 0;prays (purse<40)*99;");
        Check.same("toGive(0, 4)", 28, z.toGive(0, 4));
    }

    private static void confessing() {
        GrottoHours x = Texts.town("grotto 1 0 0;guild 9 81 50;guild 0 60 100 hires 0;guild 2 9 49;");
        Check.same("confessing(0, 0)", 41, x.confessing(0, 0));
        Check.same("confessing(0, 2)", 41, x.confessing(0, 2));
        Check.same("confessing(0, 3): 99 at most", 32, x.confessing(0, 3));
        Check.same("confessing(0, 60)", 0, x.confessing(0, 60));
        Check.same("confessing(1, 1)", 30, x.confessing(1, 1));
        Check.same("confessing(1, 12)", 0, x.confessing(1, 12));
        Check.same("confessing(2, 1) without 50", 0, x.confessing(2, 1));
        for (int wrong : new int[] {-1, 61, Integer.MAX_VALUE, Integer.MIN_VALUE}) {
            Check.illegalArgument("confessing(0, " + wrong + ")", () -> x.confessing(0, wrong));
            Check.illegalArgument("confessing(2, " + wrong + ")", () -> x.confessing(2, wrong));
            Check.noSuchElement("confessing(3, " + wrong + ")", () -> x.confessing(3, wrong));
        }
        Check.noSuchElement("confessing(-1, 1)", () -> x.confessing(-1, 1));
        Check.same("its sin stays", 81, x.guild(0, 1));
        // The 50 are missed: it must dismiss the grotto that would have prayed all away.
        GrottoHours y = Texts.town("grotto 1 1 20;guild 0 80 60 hires 0;prays (hour=1)*99;");
        Check.same("more of it", 40 - 80, Texts.town("grotto 1 0 20;guild 0 80 60 hires 0;prays (hour=1)*99;")
            .confessing(0, 2));
        Check.same("confessing(0, 0)", 40, y.confessing(0, 0));
    }
}
