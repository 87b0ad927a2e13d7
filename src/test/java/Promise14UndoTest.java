/** Promise 14, undo: the last ACT of at most 40 that are kept. */
public final class Promise14UndoTest {
    public static void main(String[] args) {
        Check.runAll(Promise14UndoTest.class);
    }

    private static final String TOWN = "grotto 1 0 4;hollow 2 0 9;guild 3 60 100 hires 0;guild 9 90 2 hires 1;";

    static void promise14NoneIsLeftAlone() {
        GrottoHours x = Texts.town(TOWN);
        Facts before = Facts.of(x);
        Check.same("undo()", -1, x.undo());
        before.areSo("undo() without acts, not a refused act", x);
        x.give(0, 1);
        Check.same("undo()", 0, x.undo());
        Check.same("undo()", -1, x.undo());
        before.areSo("undo() without acts any more", x);
    }

    /** What an ACT changed is as it was. */
    private static void undone(String name, GrottoHours x, Check.Call act) {
        Facts before = Facts.of(x);
        int acts = x.count(9);
        Check.isTrue(name + " is done", act.answer() >= 0);
        Check.same(name + ": acts", acts + 1, x.count(9));
        Check.same(name + ": undo()", acts, x.undo());
        before.areSo(name + " is undone", x);
    }

    static void promise14EachKindOfAct() {
        GrottoHours x = Texts.town(TOWN);
        undone("hours(1)", x, () -> x.hours(1));
        undone("dismiss(0)", x, () -> x.dismiss(0));
        undone("confess(0)", x, () -> x.confess(0));
        GrottoHours y = Texts.town(TOWN);
        undone("hours(20)", y, () -> y.hours(20));
        undone("drain(1, true)", y, () -> Check.bit(y.drain(1, true)));
        undone("give(1, 100)", y, () -> y.give(1, 100));
        GrottoHours z = Texts.town(TOWN + "grotto 1 0 0;");
        undone("hire(0, 2)", z, () -> Check.bit(z.hire(0, 2)));
        z.drain(1, true);
        undone("drain(1, false)", z, () -> Check.bit(z.drain(1, false)));
    }

    static void promise14HoursUndoSilencesAndDismissals() {
        GrottoHours x = Texts.town("grotto 1 0 20;guild 6 90 2 hires 0;");
        x.hours(1);
        Check.same("a silence", 1, x.guild(0, 3));
        x.hours(6);
        Check.same("silences", 7, x.guild(0, 3));
        Check.same("dismissed", -1, x.guild(0, 4));
        Check.same("undo()", 1, x.undo());
        Check.same("the hour", 1, x.count(2));
        Check.same("a silence", 1, x.guild(0, 3));
        Check.same("hired again", 0, x.guild(0, 4));
    }

    static void promise14EachGuildsSilencesAreItsOwn() {
        // One silence, one in each hour, none.
        GrottoHours x = Texts.town("grotto 1 0 0;guild 0 80 0 hires 0;guild 0 71 0;guild 0 0 0;");
        x.hours(3);
        x.hours(2);
        int[] want = {1, 5, 0};
        int[] undone = {1, 3, 0};
        for (int guild = 0; guild < 3; guild++) {
            Check.same("silences of " + guild, want[guild], x.guild(guild, 3));
        }
        x.undo();
        for (int guild = 0; guild < 3; guild++) {
            Check.same("silences of " + guild + ", undone", undone[guild], x.guild(guild, 3));
        }
    }

    static void promise14AllSixGuilds() {
        StringBuilder text = new StringBuilder(Edges.EIGHT_GROTTOES);
        for (int i = 0; i < 6; i++) {
            text.append(String.format("guild %d %d %d hires %d;", i + 1, 66 + i, 100 + i, i + 2));
        }
        GrottoHours x = Texts.town(text.append("costs 40;").toString());
        x.hours(2);
        Facts before = Facts.of(x);
        x.hours(20);
        Check.same("all are dismissed", 0, x.count(5));
        Check.same("undo()", 1, x.undo());
        before.areSo("undone", x);
        Check.same("undo()", 0, x.undo());
        for (int guild = 0; guild < 6; guild++) {
            Check.same("sin at first", 66 + guild, x.guild(guild, 1));
            Check.same("purse at first", 100 + guild, x.guild(guild, 2));
            Check.same("no silences at first", 0, x.guild(guild, 3));
            Check.same("hired at first", guild + 2, x.guild(guild, 4));
        }
    }

    static void promise14TheLastOneFirst() {
        GrottoHours x = Texts.town("grotto 1 0 0;guild 0 50 100;");
        x.give(0, 7);
        x.confess(0);
        x.hire(0, 0);
        x.hours(2);
        Check.same("undo()", 3, x.undo());
        Check.same("sin", 25, x.guild(0, 1));
        Check.same("it has it", 0, x.guild(0, 4));
        Check.same("undo()", 2, x.undo());
        Check.same("it hasn't", -1, x.guild(0, 4));
        Check.same("undo()", 1, x.undo());
        Check.same("sin", 50, x.guild(0, 1));
        Check.same("purse", 107, x.guild(0, 2));
        Check.same("undo()", 0, x.undo());
        Check.same("purse", 100, x.guild(0, 2));
    }

    static void promise14FortyActsAreKept() {
        GrottoHours x = Texts.town("guild 0 0 0;");
        for (int i = 1; i <= 40; i++) {
            x.give(0, 1);
        }
        for (int i = 39; i >= 0; i--) {
            Check.same("undo()", i, x.undo());
            Check.same("purse", i, x.guild(0, 2));
        }
        Check.same("undo()", -1, x.undo());
    }

    static void promise14OfFortyOneTheFirstIsGone() {
        GrottoHours x = Texts.town("guild 0 0 0;");
        for (int i = 1; i <= 41; i++) {
            Check.same("give", i, x.give(0, 1));
        }
        Check.same("acts", 40, x.count(9));
        for (int i = 39; i >= 0; i--) {
            Check.same("undo()", i, x.undo());
            Check.same("purse", i + 1, x.guild(0, 2));
        }
        Check.same("undo()", -1, x.undo());
        Check.same("the first stays done", 1, x.guild(0, 2));
    }

    static void promise14OfMoreTheLatestAreKept() {
        GrottoHours x = Texts.town("guild 0 0 0;");
        for (int i = 1; i <= 100; i++) {
            x.give(0, 1);
        }
        for (int i = 39; i >= 0; i--) {
            Check.same("undo()", i, x.undo());
        }
        Check.same("purse", 60, x.guild(0, 2));
        Check.same("undo()", -1, x.undo());
        for (int i = 1; i <= 40; i++) {
            x.give(0, 2);
            Check.same("acts anew", i, x.count(9));
        }
        Check.same("undo()", 39, x.undo());
        Check.same("purse", 138, x.guild(0, 2));
    }

    static void promise14ActsBehindAnUndoTakeItsPlace() {
        GrottoHours x = Texts.town("guild 0 0 0;");
        x.give(0, 1);
        x.give(0, 2);
        x.undo();
        x.give(0, 4);
        Check.same("purse", 5, x.guild(0, 2));
        Check.same("undo()", 1, x.undo());
        Check.same("purse", 1, x.guild(0, 2));
        Check.same("undo()", 0, x.undo());
        Check.same("purse", 0, x.guild(0, 2));
    }

    static void promise14RefusedCallsAreNoActs() {
        GrottoHours x = Texts.town("grotto 1 0 0;guild 0 0 10 hires 0;");
        x.give(0, 1);
        x.hours(0);
        x.hire(0, 0);
        x.confess(0);
        x.drain(0, false);
        x.give(0, 0);
        x.dismiss(0);
        x.dismiss(0);
        Check.same("refused", 6, x.count(13));
        Check.same("undo()", 1, x.undo());
        Check.same("it has it again", 0, x.guild(0, 4));
        Check.same("undo()", 0, x.undo());
        Check.same("purse", 10, x.guild(0, 2));
        Check.same("refusals aren't undone", 6, x.count(13));
    }

    static void promise14WhatIsSeenIsNoAct() {
        GrottoHours x = Texts.town("guild 1 10 0;");
        x.give(0, 1);
        x.see(0, 1, 11);
        x.see(0, 1, 100);
        x.image();
        Check.same("undo()", 0, x.undo());
        Check.same("seen", 1, x.count(10));
        Check.same("STATUS 2", 1, x.count(14));
        x.forget();
        Check.same("undo()", -1, x.undo());
        Check.same("forgotten", 0, x.count(10));
        Check.isTrue("restore() is no act", x.restore());
        Check.same("as in the image", 1, x.count(9));
    }
}
