/** Promise 12, drain: DRAINED, or flows again; not what is so already. */
public final class Promise12DrainTest {
    public static void main(String[] args) {
        Check.runAll(Promise12DrainTest.class);
    }

    static void promise12DrainedAndFlowsAgain() {
        GrottoHours x = Texts.town("grotto 1 0 1;grotto 1 0 1;");
        Check.isTrue("drain(1, true)", x.drain(1, true));
        Check.same("drained", 2, x.count(6));
        Check.same("dripping(1)", 1, x.dripping(1));
        Check.isTrue("drain(1, false)", x.drain(1, false));
        Check.same("drained", 0, x.count(6));
        Check.same("dripping(1)", 3, x.dripping(1));
        Check.same("acts", 2, x.count(9));
    }

    static void promise12WhatFlowsAlreadyIsRefused() {
        GrottoHours x = Texts.town("grotto 1 0 1;grotto 1 0 1;");
        Facts.refused(x, 1, "drain(1, false)", 0, () -> Check.bit(x.drain(1, false)));
        x.drain(0, true);
        Facts.refused(x, 1, "drain(1, false)", 0, () -> Check.bit(x.drain(1, false)));
        Check.same("undo()", 0, x.undo());
    }

    static void promise12WhatIsDrainedAlreadyIsRefused() {
        GrottoHours x = Texts.town("grotto 1 0 1;grotto 1 0 1;");
        x.drain(1, true);
        Facts.refused(x, 1, "drain(1, true)", 0, () -> Check.bit(x.drain(1, true)));
        Check.same("undo()", 0, x.undo());
        Check.same("it flows", 0, x.count(6));
        Check.isTrue("drain(1, true) again", x.drain(1, true));
    }

    static void promise12AHiredOne() {
        GrottoHours x = Texts.town("grotto 1 0 1;guild 1 1 1 hires 0;");
        Check.isTrue("drain(0, true)", x.drain(0, true));
        Check.same("it is hired still", 0, x.guild(0, 4));
    }

    static void promise12AllEight() {
        GrottoHours x = Texts.town(Edges.EIGHT_GROTTOES);
        for (int grotto = 7; grotto >= 0; grotto--) {
            Check.isTrue("drain", x.drain(grotto, true));
        }
        Check.same("drained", 255, x.count(6));
        Check.same("nothing drips", 0, x.dripping(1));
        Check.isTrue("the last one flows", x.drain(7, false));
        Check.same("drained", 127, x.count(6));
        Check.same("it drips", 128, x.dripping(1));
    }

    static void promise12NoSuchGrotto() {
        GrottoHours x = Texts.town("grotto 1 0 1;grotto 1 0 1;guild 1 1 1;guild 1 1 1;guild 1 1 1;");
        for (int wrong : Edges.outside(0, 1)) {
            Check.noSuchElement("drain(" + wrong + ", true)", () -> Check.bit(x.drain(wrong, true)));
            Check.noSuchElement("drain(" + wrong + ", false)", () -> Check.bit(x.drain(wrong, false)));
        }
        Facts.noSuchElement(x, "drain(2, true)", () -> Check.bit(x.drain(2, true)));
        Facts.noSuchElement(x, "drain(-1, false)", () -> Check.bit(x.drain(-1, false)));
        // 32 would be bit 0 by a shift that goes round.
        Facts.noSuchElement(x, "drain(32, true)", () -> Check.bit(x.drain(32, true)));
        GrottoHours all = Texts.town(Edges.EIGHT_GROTTOES);
        Check.noSuchElement("the ninth", () -> Check.bit(all.drain(8, true)));
    }
}
