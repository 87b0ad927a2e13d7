/** Promises 8 to 14: hours, hire, dismiss, confess, drain, give, undo. */
public final class ActsTest {
    public static void main(String[] args) {
        hoursGoBy();
        hoursArePaid();
        hoursArePrayed();
        hoursEnd();
        hires();
        dismisses();
        confesses();
        drains();
        gives();
        undoes();
        keepsForty();
        Check.end();
    }

    private static void guild(GrottoHours x, String when, int guild, int... want) {
        for (int i = 0; i < want.length; i++) {
            int what = i + 1;
            Check.same(when + ": guild(" + guild + ", " + what + ")", want[i], () -> x.guild(guild, what));
        }
    }

    private static void hoursGoBy() {
        GrottoHours x = Texts.town("guild 4 30 20;guild 9 95 990;bound 98;");
        Check.same("hours(1)", 1, x.hours(1));
        guild(x, "hour 1", 0, 34, 32, 0, -1);
        guild(x, "hour 1", 1, 99, 499, 1, -1);
        Check.same("hours(2)", 3, x.hours(2));
        // 499 + 27 is 526, half 263; 263 + 27 is 290, half 145.
        guild(x, "hour 3", 1, 99, 145, 3, -1);
        Check.same("hours(20)", 23, x.hours(20));
        guild(x, "hour 23", 0, 99, 15, 6, -1);
        for (int wrong : new int[] {0, -1, 21, Integer.MAX_VALUE, Integer.MIN_VALUE}) {
            Check.same("hours(" + wrong + ")", -1, x.hours(wrong));
        }
        Check.same("STATUS 1", 5, x.count(13));
        Check.same("no hour went by", 23, x.count(2));
        Check.same("acts", 3, x.count(9));
    }

    private static void hoursArePaid() {
        GrottoHours x = Texts.town("grotto 1 0 10;grotto 1 0 10;guild 1 0 7 hires 0;guild 1 0 6 hires 1;");
        x.hours(1);
        // 7 + 3 is just enough for 10, 6 + 3 isn't: nothing is paid.
        guild(x, "just enough", 0, 1, 0, 0, 0);
        guild(x, "too little", 1, 1, 9, 0, -1);
        x.hours(1);
        guild(x, "dismissed too", 0, 1, 3, 0, -1);
        // The silence halves what is left behind the payment, and the rule sees the grown purse and sin.
        GrottoHours y = Texts.town("grotto 1 1 10;guild 2 70 10 hires 0;costs (sin=72)*2+purse/4;prays 0;");
        y.hours(1);
        guild(y, "rule", 0, 72, 5, 1, 0);
        // A cost is kept to 50 at most, 0 at least.
        GrottoHours z = Texts.town("grotto 1 1 10;guild 0 0 60 hires 0;costs 100-hour*200;");
        z.hours(1);
        guild(z, "cost 50", 0, 0, 10, 0, 0);
        z.hours(1);
        guild(z, "cost 0", 0, 0, 10, 0, 0);
    }

    private static void hoursArePrayed() {
        GrottoHours x = Texts.town("grotto 2 1 0;hollow 3 0 0;guild 1 30 0 hires 0;guild 2 30 0 hires 1;");
        x.hours(1);
        guild(x, "hour 0: only the hollow one, twice 5", 0, 31);
        guild(x, "hour 0: only the hollow one, twice 5", 1, 22);
        x.hours(1);
        guild(x, "hour 1: only grotto 0", 0, 27);
        guild(x, "hour 1: only grotto 0", 1, 24);
        // What a rule gives is kept to 0 to SIN; a hollow one prays by what is so then.
        GrottoHours y = Texts.town("hollow 1 0 0;grotto 1 0 0;grotto 1 0 0;guild 0 80 0 hires 0;guild 0 3 0 hires 1;"
            + "guild 0 40 7 hires 2;bound 99;prays sin/2-purse*100;");
        y.hours(1);
        guild(y, "hollow", 0, 20);
        guild(y, "plain", 1, 2);
        guild(y, "below 0", 2, 40);
        GrottoHours z = Texts.town("hollow 1 0 0;guild 4 30 0 hires 0;prays 9999;");
        z.hours(1);
        guild(z, "all of it", 0, 4);
        // The rule sees the wet and the hour of the hour that goes by, and purse ahead of its growth.
        GrottoHours w = Texts.town("wet 2 0 7;grotto 1 0 3;guild 0 90 100 hires 0;bound 99;"
            + "prays wet*10+hour+drip+price;costs 0;");
        w.hours(1);
        guild(w, "20+0+1+3", 0, 66);
        w.hours(1);
        guild(w, "a dry hour", 0, 66);
        w.hours(1);
        guild(w, "70+2+1+3", 0, 0);
        GrottoHours v = Texts.town("grotto 1 0 3;guild 9 90 10 hires 0;bound 99;prays purse;");
        v.hours(1);
        guild(v, "purse ahead of its growth", 0, 89, 34);
        // A drained grotto doesn't pray but is paid.
        GrottoHours u = Texts.town("grotto 1 0 3;guild 0 50 10 hires 0;");
        u.drain(0, true);
        u.hours(1);
        guild(u, "drained", 0, 50, 7, 0, 0);
    }

    private static void hoursEnd() {
        GrottoHours x = Texts.town("wet 1 2 3 4 5 6 7;");
        for (int i = 0; i < 49; i++) {
            x.hours(20);
        }
        Check.same("980 hours", 980, x.count(2));
        Check.same("wet of hour 980", 1, x.count(3));
        Check.same("hours(20)", -1, x.hours(20));
        Check.same("hours(19)", 999, x.hours(19));
        Check.same("hours(1)", -1, x.hours(1));
        Check.same("acts that are kept", 40, x.count(9));
        Check.same("STATUS 1", 2, x.count(13));
    }

    private static void hires() {
        GrottoHours x = Texts.town("grotto 1 0 1;grotto 1 0 1;guild 1 1 1;guild 1 1 1;");
        Check.isTrue("hire(0, 1)", x.hire(0, 1));
        Check.isTrue("hire(1, 1) by whomever", !x.hire(1, 1));
        Check.isTrue("hire(0, 1) by itself", !x.hire(0, 1));
        Check.isTrue("hire(0, 0) in place of another one", x.hire(0, 0));
        Check.same("guild(0, 4)", 0, x.guild(0, 4));
        Check.isTrue("hire(1, 1)", x.hire(1, 1));
        Check.same("hired", 3, x.count(5));
        Check.same("STATUS 1", 2, x.count(13));
        Check.same("acts", 3, x.count(9));
        for (int wrong : new int[] {-1, 2, Integer.MIN_VALUE}) {
            Check.noSuchElement("hire by none", () -> Check.bit(x.hire(wrong, 0)));
            Check.noSuchElement("hire none", () -> Check.bit(x.hire(0, wrong)));
        }
        Check.same("an exception is no refusal", 2, x.count(13));
    }

    private static void dismisses() {
        GrottoHours x = Texts.town("grotto 1 0 1;grotto 1 0 1;guild 1 1 1 hires 1;");
        Check.same("dismiss(0)", 1, x.dismiss(0));
        Check.same("dismiss(0) again", -1, x.dismiss(0));
        Check.same("STATUS 1", 1, x.count(13));
        Check.same("acts", 1, x.count(9));
        Check.same("grotto(1, 5)", -1, x.grotto(1, 5));
        Check.noSuchElement("dismiss(1)", () -> x.dismiss(1));
        Check.noSuchElement("dismiss(-1)", () -> x.dismiss(-1));
    }

    private static void confesses() {
        GrottoHours x = Texts.town("guild 1 99 100;guild 1 7 49;");
        Check.same("confess(0)", 49, x.confess(0));
        Check.same("confess(0) again", 24, x.confess(0));
        Check.same("purse", 0, x.guild(0, 2));
        Check.same("confess(0) without 50", -1, x.confess(0));
        Check.same("confess(1) without 50", -1, x.confess(1));
        Check.same("sin stays", 7, x.guild(1, 1));
        Check.same("STATUS 1", 2, x.count(13));
        Check.same("acts", 2, x.count(9));
        Check.noSuchElement("confess(2)", () -> x.confess(2));
        Check.noSuchElement("confess(-1)", () -> x.confess(-1));
    }

    private static void drains() {
        GrottoHours x = Texts.town("grotto 1 0 1;grotto 1 0 1;");
        Check.isTrue("it flows already", !x.drain(1, false));
        Check.isTrue("drain", x.drain(1, true));
        Check.isTrue("drain again", !x.drain(1, true));
        Check.same("drained", 2, x.count(6));
        Check.same("dripping(1)", 1, x.dripping(1));
        Check.isTrue("flow", x.drain(1, false));
        Check.same("drained", 0, x.count(6));
        Check.same("STATUS 1", 2, x.count(13));
        Check.same("acts", 2, x.count(9));
        Check.noSuchElement("drain(2)", () -> Check.bit(x.drain(2, true)));
        Check.noSuchElement("drain(-1)", () -> Check.bit(x.drain(-1, false)));
    }

    private static void gives() {
        GrottoHours x = Texts.town("guild 1 1 890;");
        Check.same("give(0, 1)", 891, x.give(0, 1));
        Check.same("give(0, 100)", 991, x.give(0, 100));
        Check.same("give(0, 9)", 999, x.give(0, 9));
        Check.same("999 at most", 999, x.give(0, 1));
        for (int wrong : new int[] {0, -1, 101, Integer.MAX_VALUE, Integer.MIN_VALUE}) {
            Check.same("give(0, " + wrong + ")", -1, x.give(0, wrong));
        }
        Check.same("STATUS 1", 5, x.count(13));
        Check.same("acts", 4, x.count(9));
        Check.noSuchElement("give(1, 1)", () -> x.give(1, 1));
        Check.noSuchElement("give(-1, 0)", () -> x.give(-1, 0));
    }

    private static void undoes() {
        GrottoHours x = Texts.town("grotto 1 0 4;grotto 2 0 9;grotto 3 0 0;guild 3 60 100 hires 0;guild 9 90 2 hires 2;");
        x.hours(2);
        x.hire(0, 1);
        x.dismiss(0);
        x.confess(0);
        x.drain(0, true);
        x.give(1, 10);
        Check.same("acts", 6, x.count(9));
        Check.same("give undone", 5, x.undo());
        Check.same("drain undone", 4, x.undo());
        Check.same("drained", 0, x.count(6));
        Check.same("confession undone", 3, x.undo());
        Check.same("dismissal undone", 2, x.undo());
        Check.same("guild(0, 4)", 1, x.guild(0, 4));
        Check.same("hiring undone", 1, x.undo());
        Check.same("guild(0, 4)", 0, x.guild(0, 4));
        Check.same("hours undone", 0, x.undo());
        guild(x, "as at first", 0, 60, 100, 0, 0);
        guild(x, "as at first", 1, 90, 2, 0, 2);
        Check.same("the hour", 0, x.count(2));
        x.hours(3);
        x.drain(2, true);
        x.hours(4);
        int silences = x.guild(1, 3);
        x.hours(5);
        Check.isTrue("more silences", x.guild(1, 3) > silences);
        Check.same("five hours undone", 3, x.undo());
        Check.same("the hour", 7, x.count(2));
        Check.same("silences", silences, x.guild(1, 3));
        Check.same("drained", 4, x.count(6));
        Check.same("four hours undone", 2, x.undo());
        Check.same("the hour", 3, x.count(2));
        x.undo();
        x.undo();
        x.see(0, 1, 2);
        Check.same("undo() without acts", -1, x.undo());
        Check.same("that is no refused act", 0, x.count(13));
        Check.same("what is seen stays", 1, x.count(10));
    }

    private static void keepsForty() {
        GrottoHours x = Texts.town("guild 0 0 0;");
        for (int i = 1; i <= 45; i++) {
            x.give(0, 1);
            Check.same("acts", Math.min(i, 40), x.count(9));
        }
        for (int i = 39; i >= 0; i--) {
            Check.same("undo()", i, x.undo());
            Check.same("purse", i + 5, x.guild(0, 2));
        }
        Check.same("undo()", -1, x.undo());
        Check.same("purse", 5, x.guild(0, 2));
        x.give(0, 3);
        Check.same("undo()", 0, x.undo());
        Check.same("purse", 5, x.guild(0, 2));
    }
}
