/** Promise 33, forget: nothing is SEEN any more, and all else stays. */
public final class Promise33ForgetTest {
    public static void main(String[] args) {
        Check.runAll(Promise33ForgetTest.class);
    }

    static void promise33AllEight() {
        GrottoHours x = Texts.town("guild 1 10 0;");
        for (int i = 0; i < 8; i++) {
            x.see(0, 1, 50);
        }
        Check.same("it isn't so", 0, x.greedy(2));
        x.forget();
        Check.same("seen", 0, x.count(10));
        Check.same("it is so", 1, x.greedy(2));
        Check.same("by nine greeds too", 9, x.greedy(0));
        for (int i = 1; i <= 8; i++) {
            Check.same("see anew", i, x.see(0, 1, 12));
        }
        Check.same("greedy(1)", 2, x.greedy(1));
    }

    static void promise33WhereNothingIsSeen() {
        GrottoHours x = Texts.town("guild 1 10 0;");
        Facts before = Facts.of(x);
        x.forget();
        x.forget();
        before.areSo("forget()", x);
        GrottoHours none = new GrottoHours();
        none.forget();
        Check.same("of a new object", 0, none.count(10));
    }

    static void promise33AllElseStays() {
        GrottoHours x = Texts.town("grotto 1 0 0;guild 1 10 100 hires 0;");
        x.hours(2);
        x.hours(0);
        x.see(0, 1, 100);
        x.image();
        x.drain(0, true);
        Facts before = Facts.of(x);
        x.see(0, 1, 5);
        x.see(0, 2, 5);
        x.forget();
        before.areSo("forget()", x);
        Check.same("STATUS 2", 1, x.count(14));
        Check.same("acts", 1, x.undo());
        Check.isTrue("the image", x.restore());
    }

    static void promise33IsNoAct() {
        GrottoHours x = Texts.town("guild 1 10 0;");
        x.see(0, 1, 5);
        x.forget();
        Check.same("undo()", -1, x.undo());
        Check.same("seen", 0, x.count(10));
    }
}
