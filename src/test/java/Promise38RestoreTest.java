/** Promise 38, restore: all that an image keeps is as in it again. */
public final class Promise38RestoreTest {
    public static void main(String[] args) {
        Check.runAll(Promise38RestoreTest.class);
    }

    static void promise38WithoutAnImage() {
        GrottoHours x = Texts.town("grotto 1 0 0;guild 1 10 100 hires 0;");
        x.hours(2);
        x.hours(0);
        Facts before = Facts.of(x);
        Check.isFalse("restore()", x.restore());
        before.areSo("restore()", x);
        Check.same("acts", 0, x.undo());
        Check.isFalse("of a new object", new GrottoHours().restore());
    }

    static void promise38WhatHoursAndActsChange() {
        GrottoHours x = Texts.town("wet 1 2 3;grotto 1 0 2;grotto 2 1 3;guild 4 60 20 hires 0;guild 9 69 500;");
        x.drain(1, true);
        x.hours(2);
        Facts before = Facts.of(x);
        x.image();
        x.drain(1, false);
        x.drain(0, true);
        x.hire(1, 1);
        x.dismiss(0);
        x.confess(1);
        x.give(0, 50);
        x.hours(20);
        Check.isTrue("restore()", x.restore());
        before.areSo("restored", x);
    }

    static void promise38AllFortyActs() {
        GrottoHours x = Texts.town("guild 0 0 0;");
        for (int i = 1; i <= 40; i++) {
            x.give(0, 1);
        }
        x.image();
        for (int i = 0; i < 30; i++) {
            x.undo();
        }
        for (int i = 0; i < 50; i++) {
            x.give(0, 3);
        }
        Check.isTrue("restore()", x.restore());
        Check.same("acts", 40, x.count(9));
        for (int i = 39; i >= 0; i--) {
            Check.same("undo()", i, x.undo());
            Check.same("purse", i, x.guild(0, 2));
        }
        Check.same("undo()", -1, x.undo());
        Check.isTrue("restore() again", x.restore());
        Check.same("acts", 40, x.count(9));
        Check.same("purse", 40, x.guild(0, 2));
    }

    static void promise38AllEightThatAreSeen() {
        GrottoHours x = Texts.town("guild 1 10 0;guild 2 20 0;");
        for (int i = 0; i < 8; i++) {
            x.see(i % 2, i, i % 2 == 0 ? 10 + i : 20 + 2 * i);
        }
        Check.same("it is so", 1, x.greedy(2));
        x.image();
        x.forget();
        for (int i = 0; i < 8; i++) {
            x.see(1 - i % 2, 20 - i, 0);
        }
        Check.same("it isn't so", 0, x.greedy(2));
        Check.isTrue("restore()", x.restore());
        Check.same("seen", 8, x.count(10));
        Check.same("it is so", 1, x.greedy(2));
        Check.same("none by another greed", 0, x.greedy(0));
        x.forget();
        x.see(0, 1, 12);
        x.image();
        x.forget();
        Check.isTrue("restore()", x.restore());
        Check.same("seen", 1, x.count(10));
        Check.same("greedy(1)", 2, x.greedy(1));
    }

    static void promise38StatusOfEachKind() {
        GrottoHours x = Texts.town("guild 0 0 0;");
        Texts.port(x, "#");
        x.hours(0);
        x.hours(0);
        x.see(0, 0, 100);
        x.see(0, 0, 100);
        x.see(0, 0, 100);
        x.image();
        for (int i = 0; i < 5; i++) {
            Texts.port(x, "#");
            x.hours(0);
            x.see(0, 0, 100);
        }
        Check.isTrue("restore()", x.restore());
        Check.same("STATUS 0", 1, x.count(12));
        Check.same("STATUS 1", 2, x.count(13));
        Check.same("STATUS 2", 3, x.count(14));
    }

    static void promise38TapeAndPlaceOfAFaultStay() {
        GrottoHours x = Texts.town("guild 0 0 0;");
        x.image();
        Texts.port(x, "bound 7;#");
        Texts.feed(x, "wet 6;");
        Check.isTrue("restore()", x.restore());
        Check.same("the tape", 20, x.count(11));
        Check.same("fault()", 8, x.fault());
        Check.same("its bytes are there", 0, x.port(20));
        Check.same("wet", 6, x.count(3));
    }

    static void promise38AsOftenAsOneLikes() {
        GrottoHours x = Texts.town("guild 0 0 7;");
        x.image();
        for (int i = 0; i < 5; i++) {
            x.give(0, 10);
            x.see(0, 0, 0);
            x.hours(1);
            Check.isTrue("restore()", x.restore());
            Check.same("purse", 7, x.guild(0, 2));
            Check.same("acts", 0, x.count(9));
            Check.same("seen", 0, x.count(10));
            Check.same("the hour", 0, x.count(2));
        }
    }

    static void promise38IsNoActAndNotUndone() {
        GrottoHours x = Texts.town("guild 0 0 7;");
        x.give(0, 1);
        x.image();
        x.give(0, 10);
        x.give(0, 10);
        x.restore();
        Check.same("acts", 1, x.count(9));
        Check.same("undo()", 0, x.undo());
        Check.same("purse", 7, x.guild(0, 2));
        Check.same("undo()", -1, x.undo());
    }

    static void promise38AtTheEndsOfAll() {
        GrottoHours x = Edges.townInHour(999, Edges.EIGHT_GROTTOES + "guild 0 99 999 hires 7;" + "guild 0 99 0;".repeat(4)
            + "guild 0 99 999 hires 0;bound 98;prays 0;");
        for (int grotto = 0; grotto < 8; grotto++) {
            x.drain(grotto, true);
        }
        Facts before = Facts.of(x);
        x.image();
        while (x.count(9) > 0) {
            x.undo();
        }
        Check.isTrue("restore()", x.restore());
        before.areSo("restored", x);
        Check.same("drained", 255, x.count(6));
        Check.same("silences", 999, x.guild(5, 3));
    }
}
