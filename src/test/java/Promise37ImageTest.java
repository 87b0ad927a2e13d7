/** Promise 37, image: one is kept, in place of another one. */
public final class Promise37ImageTest {
    public static void main(String[] args) {
        Check.runAll(Promise37ImageTest.class);
    }

    static void promise37ChangesNothing() {
        GrottoHours x = Texts.town("grotto 1 0 0;guild 1 10 100 hires 0;");
        x.hours(2);
        x.hours(0);
        Facts before = Facts.of(x);
        x.image();
        before.areSo("image()", x);
        Check.same("no act", 0, x.undo());
    }

    static void promise37InPlaceOfAnotherOne() {
        GrottoHours x = Texts.town("guild 0 0 7;");
        x.image();
        x.give(0, 1);
        x.image();
        x.give(0, 1);
        Check.isTrue("restore()", x.restore());
        Check.same("the later one", 8, x.guild(0, 2));
        Check.isTrue("restore()", x.restore());
        Check.same("not the earlier one", 8, x.guild(0, 2));
    }

    static void promise37OfANewObject() {
        GrottoHours x = new GrottoHours();
        x.image();
        x.hours(3);
        Check.isTrue("restore()", x.restore());
        Check.same("the hour", 0, x.count(2));
        Check.same("acts", 0, x.count(9));
    }

    static void promise37GoneWithAPort() {
        GrottoHours x = Texts.town("guild 0 0 7;");
        x.image();
        Check.same("port", 0, Texts.port(x, "guild 0 0 7;"));
        Check.isFalse("restore()", x.restore());
        x.image();
        Check.isTrue("a new one", x.restore());
        Check.same("port(0)", 0, x.port(0));
        Check.isFalse("gone by nothing told, too", x.restore());
    }

    static void promise37StaysOverAPortWithAFault() {
        GrottoHours x = Texts.town("guild 0 0 7;");
        x.image();
        x.give(0, 1);
        Check.same("port", 1, Texts.port(x, "#"));
        Check.illegalArgument("port(1)", () -> x.port(1));
        Check.isTrue("restore()", x.restore());
        Check.same("purse", 7, x.guild(0, 2));
    }

    static void promise37WhatComesLaterIsntInIt() {
        GrottoHours x = Texts.town("grotto 1 0 0;guild 1 10 100;");
        x.image();
        x.hours(1);
        x.hire(0, 0);
        x.drain(0, true);
        x.see(0, 0, 0);
        x.hours(0);
        x.see(0, 0, 100);
        Texts.port(x, "#");
        x.restore();
        int[] want = {1, 1, 0, 5, 70, 0, 0, 100, 10, 0, 0, 0, 0, 0, 0};
        for (int i = 0; i < want.length; i++) {
            int what = i;
            Check.same("count(" + i + ")", want[i], () -> x.count(what));
        }
    }

    static void promise37IsNotUndone() {
        GrottoHours x = Texts.town("guild 0 0 7;");
        x.give(0, 1);
        x.image();
        Check.same("undo()", 0, x.undo());
        Check.isTrue("restore()", x.restore());
        Check.same("purse", 8, x.guild(0, 2));
        Check.same("undo() again", 0, x.undo());
        Check.same("purse", 7, x.guild(0, 2));
    }
}
