/** Promise 1, a new object: no GROTTOES, no GUILDS, nothing told. */
public final class Promise01NewObjectTest {
    public static void main(String[] args) {
        Check.runAll(Promise01NewObjectTest.class);
    }

    static void promise01CountsOfNothing() {
        GrottoHours x = new GrottoHours();
        int[] want = {0, 0, 0, 5, 70, 0, 0, 0, 0, 0, 0, 0, 0, 0, 0};
        for (int i = 0; i < want.length; i++) {
            int what = i;
            Check.same("count(" + i + ")", want[i], () -> x.count(what));
        }
    }

    static void promise01NoneIsMinusOne() {
        Check.same("NONE", -1, GrottoHours.NONE);
    }

    static void promise01HasNoFaultNoActNoImage() {
        GrottoHours x = new GrottoHours();
        Check.same("fault()", -1, x.fault());
        Check.same("undo()", -1, x.undo());
        Check.isFalse("restore()", x.restore());
    }

    static void promise01HasNoGrottoAndNoGuild() {
        GrottoHours x = new GrottoHours();
        for (int any : new int[] {0, -1, 1, 7, Integer.MAX_VALUE, Integer.MIN_VALUE}) {
            Check.noSuchElement("grotto(" + any + ", 0)", () -> x.grotto(any, 0));
            Check.noSuchElement("guild(" + any + ", 0)", () -> x.guild(any, 0));
            Check.noSuchElement("drain(" + any + ", true)", () -> Check.bit(x.drain(any, true)));
            Check.noSuchElement("often(" + any + ", 1)", () -> x.often(any, 1));
            Check.noSuchElement("hire(" + any + ", 0)", () -> Check.bit(x.hire(any, 0)));
            Check.noSuchElement("dismiss(" + any + ")", () -> x.dismiss(any));
            Check.noSuchElement("confess(" + any + ")", () -> x.confess(any));
            Check.noSuchElement("give(" + any + ", 1)", () -> x.give(any, 1));
            Check.noSuchElement("then(" + any + ", 1, 0)", () -> x.then(any, 1, 0));
            Check.noSuchElement("first(" + any + ")", () -> x.first(any));
            Check.noSuchElement("dismissed(" + any + ")", () -> x.dismissed(any));
            Check.noSuchElement("toHire(" + any + ", 1, 0)", () -> x.toHire(any, 1, 0));
            Check.noSuchElement("has(" + any + ")", () -> x.has(any));
            Check.noSuchElement("toGive(" + any + ", 1)", () -> x.toGive(any, 1));
            Check.noSuchElement("confessing(" + any + ", 1)", () -> x.confessing(any, 1));
            Check.noSuchElement("see(" + any + ", 1, 1)", () -> x.see(any, 1, 1));
            Check.noSuchElement("drought(" + any + ", 1, 1)", () -> x.drought(any, 1, 1));
            Check.noSuchElement("game(" + any + ", 0, 0)", () -> x.game(any, 0, 0));
        }
    }

    static void promise01ForecastsOfNothing() {
        GrottoHours x = new GrottoHours();
        Check.same("dripping(1)", 0, x.dripping(1));
        Check.same("dripping(60)", 0, x.dripping(60));
        Check.same("most(0, 0)", -1, x.most(0, 0));
        Check.same("most(60, 1)", -1, x.most(60, 1));
        Check.same("hush(60)", 60, x.hush(60));
        Check.same("chorus(60)", 1, x.chorus(60));
        Check.same("together(0)", 1, x.together(0));
        Check.same("rhythm(0)", 1, x.rhythm(0));
        Check.illegalArgument("together(1)", () -> x.together(1));
        Check.illegalArgument("rhythm(1)", () -> x.rhythm(1));
        Check.same("shared(0)", 0, x.shared(0));
        Check.same("shared(1)", 0, x.shared(1));
        Check.same("greedy(0)", 0, x.greedy(0));
        Check.same("greedy(1)", -1, x.greedy(1));
        Check.same("greedy(2)", 1, x.greedy(2));
        Check.same("look(0)", -1, x.look(0));
        Check.same("look(1)", 0, x.look(1));
        for (int what = 0; what < 3; what++) {
            Check.same("years(1, 60, " + what + ")", 0, x.years(1, 60, what));
        }
    }

    static void promise01HoursGoByInAnEmptyTown() {
        GrottoHours x = new GrottoHours();
        Check.same("hours(20)", 20, x.hours(20));
        Check.same("count(2)", 20, x.count(2));
        Check.same("count(9)", 1, x.count(9));
        Check.same("undo()", 0, x.undo());
        Check.same("count(2)", 0, x.count(2));
    }

    static void promise01PortOfNothingTellsNothing() {
        GrottoHours x = new GrottoHours();
        Facts before = Facts.of(x);
        Check.same("port(0)", 0, x.port(0));
        before.areSo("port(0)", x);
        Facts.illegalArgument(x, "port(1)", () -> x.port(1));
        Facts.illegalArgument(x, "port(-1)", () -> x.port(-1));
    }

    static void promise01ObjectsShareNothing() {
        GrottoHours x = Texts.town("wet 3;bound 9;grotto 1 0 0;guild 1 50 100 hires 0;prays 1;costs 2;");
        x.hours(3);
        x.see(0, 1, 1);
        x.hours(0);
        x.image();
        Texts.feed(x, "12345");
        promise01CountsOfNothing();
        promise01HasNoFaultNoActNoImage();
        GrottoHours y = Texts.town("grotto 1 0 7;guild 1 50 100 hires 0;");
        Check.same("the other one's cost", 7, y.guild(0, 5));
        Check.same("the other one's sin", 46, y.then(0, 1, 0));
        Check.same("its own cost", 2, x.guild(0, 5));
    }
}
