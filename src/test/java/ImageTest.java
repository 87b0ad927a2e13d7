/** Promises 37 and 38: image, restore. */
public final class ImageTest {
    public static void main(String[] args) {
        restoresAll();
        restoresActs();
        manyTimes();
        ofAnEmptyTown();
        goneWithAPort();
        Check.end();
    }

    private static void counts(GrottoHours x, String when, int... want) {
        for (int i = 0; i < want.length; i++) {
            int what = i;
            Check.same(when + ": count(" + i + ")", want[i], () -> x.count(what));
        }
    }

    private static void restoresAll() {
        GrottoHours x = Texts.town("wet 1 2 3;grotto 1 0 2;grotto 2 1 3;guild 4 60 20 hires 0;guild 9 69 500;");
        Check.isTrue("restore() without an image", !x.restore());
        x.drain(1, true);
        x.hours(2);
        x.see(0, 3, 4);
        x.see(0, 30, 4);
        x.hours(0);
        Texts.port(x, "#");
        int silences = x.guild(1, 3);
        int[] before = {2, 2, 2, 3, 70, 1, 2, x.count(7), x.count(8), 2, 1, 0, 1, 1, 1};
        counts(x, "ahead", before);
        x.image();
        x.drain(1, false);
        x.hire(1, 1);
        x.hire(1, 0);
        x.hours(20);
        x.see(1, 1, 1);
        x.see(1, 1, 100);
        Texts.port(x, "##");
        Texts.feed(x, "12345678901234567890");
        Check.isTrue("restore()", x.restore());
        before[11] = 20;
        counts(x, "restored", before);
        Check.same("silences", silences, x.guild(1, 3));
        Check.same("guild(1, 4)", -1, x.guild(1, 4));
        Check.same("greedy by what was seen", 0, x.greedy(2));
        x.forget();
        x.see(1, 1, x.then(1, 1, 0));
        x.see(0, 2, x.then(0, 2, 0));
        x.image();
        x.forget();
        x.see(0, 1, 1);
        x.see(0, 3, 1);
        x.restore();
        Check.same("seen again", 2, x.count(10));
        Check.same("it is so without again", 1, x.greedy(2));
    }

    private static void restoresActs() {
        GrottoHours x = Texts.town("guild 0 0 0;");
        for (int i = 1; i <= 40; i++) {
            x.give(0, 1);
        }
        x.image();
        x.undo();
        x.undo();
        x.give(0, 50);
        x.give(0, 50);
        x.give(0, 50);
        x.restore();
        Check.same("purse", 40, x.guild(0, 2));
        for (int i = 39; i >= 0; i--) {
            Check.same("undo()", i, x.undo());
            Check.same("purse", i, x.guild(0, 2));
        }
        Check.same("undo()", -1, x.undo());
        x.restore();
        Check.same("acts again", 40, x.count(9));
        Check.same("undo() again", 39, x.undo());
        Check.same("purse again", 39, x.guild(0, 2));
    }

    private static void manyTimes() {
        GrottoHours x = Texts.town("guild 0 0 7;");
        x.image();
        x.give(0, 1);
        x.image();
        x.give(0, 1);
        x.restore();
        Check.same("in place of another one", 8, x.guild(0, 2));
        x.give(0, 1);
        x.see(0, 0, 0);
        Check.isTrue("once more", x.restore());
        Check.same("purse", 8, x.guild(0, 2));
        Check.same("seen", 0, x.count(10));
        Check.same("acts", 1, x.count(9));
    }

    private static void ofAnEmptyTown() {
        GrottoHours x = new GrottoHours();
        x.image();
        x.hours(3);
        Check.isTrue("restore()", x.restore());
        Check.same("the hour", 0, x.count(2));
        Check.same("acts", 0, x.count(9));
    }

    private static void goneWithAPort() {
        GrottoHours x = Texts.town("guild 0 0 7;");
        x.image();
        Texts.port(x, "#");
        Check.isTrue("a fault leaves it", x.restore());
        Check.same("STATUS 0 is as it was", 0, x.count(12));
        Check.same("the place is the latest port's", 0, x.fault());
        Texts.port(x, "guild 0 0 7;");
        Check.isTrue("a port takes it", !x.restore());
    }
}
