/** Promises 30 to 33: see, greedy, look, forget. */
public final class SeenTest {
    public static void main(String[] args) {
        see();
        greedy();
        greedyFromNow();
        greedyOfOthers();
        look();
        forget();
        Check.end();
    }

    private static void see() {
        GrottoHours x = Texts.town("guild 1 10 0;guild 1 10 0;");
        Check.same("see(0, 0, 0)", 1, x.see(0, 0, 0));
        Check.same("see(1, 20, 99)", 2, x.see(1, 20, 99));
        Check.same("see(0, 21, 0)", -1, x.see(0, 21, 0));
        Check.same("see(0, -1, 0)", -1, x.see(0, -1, 0));
        Check.same("see(0, 0, 100)", -1, x.see(0, 0, 100));
        Check.same("see(0, 0, -1)", -1, x.see(0, 0, -1));
        Check.noSuchElement("see(2, 0, 0)", () -> x.see(2, 0, 0));
        Check.noSuchElement("see(-1, 99, 999)", () -> x.see(-1, 99, 999));
        Check.same("STATUS 2", 4, x.count(14));
        for (int i = 3; i <= 8; i++) {
            Check.same("see once more", i, x.see(0, 0, 0));
        }
        Check.same("the ninth", -1, x.see(0, 0, 0));
        Check.noSuchElement("the ninth of no guild", () -> x.see(2, 0, 0));
        Check.same("STATUS 2", 5, x.count(14));
        Check.same("seen", 8, x.count(10));
        Check.same("no act", 0, x.count(9));
    }

    private static void greedy(GrottoHours x, String when, int many, int first, int without) {
        Check.same(when + ": greedy(0)", many, x.greedy(0));
        Check.same(when + ": greedy(1)", first, x.greedy(1));
        Check.same(when + ": greedy(2)", without, x.greedy(2));
    }

    private static void greedy() {
        GrottoHours x = Texts.town("guild 0 10 0;guild 3 10 0;");
        greedy(x, "nothing seen", 18, 1, 1);
        x.see(1, 2, 16);
        greedy(x, "as it is", 9, 1, 1);
        x.see(1, 5, 25);
        x.see(0, 20, 90);
        greedy(x, "guild 0 has 4", 1, 4, 0);
        x.see(0, 1, 15);
        greedy(x, "nothing suits", 0, -1, 0);
        Check.noSuchElement("greedy(-1)", () -> x.greedy(-1));
        Check.noSuchElement("greedy(3)", () -> x.greedy(3));
        GrottoHours y = Texts.town("guild 0 10 0;guild 3 10 0;");
        y.see(1, 20, 99);
        greedy(y, "99 at most: 5 to 9", 5, 15, 0);
        y.see(0, 0, 10);
        greedy(y, "what is so now helps not", 5, 15, 0);
        y.see(0, 0, 11);
        greedy(y, "what isn't so now", 0, -1, 0);
    }

    private static void greedyFromNow() {
        GrottoHours x = Texts.town("grotto 2 0 0;guild 4 50 0 hires 0;");
        x.see(0, 1, 46);
        greedy(x, "46 behind an hour", 1, 1, 0);
        x.hours(1);
        // Now 49 in hour 1, where nothing drips: no greed makes it 46.
        greedy(x, "46 behind another hour", 0, -1, 0);
        x.undo();
        greedy(x, "undone", 1, 1, 0);
    }

    private static void greedyOfOthers() {
        GrottoHours x = Texts.town("guild 1 10 0;guild 2 10 0;guild 3 10 0;");
        x.see(0, 1, 11);
        x.see(1, 1, 17);
        x.see(2, 1, 13);
        greedy(x, "guild 1 has 7", 1, 17, 0);
        x.see(2, 2, 17);
        greedy(x, "two would be greedy", 0, -1, 0);
        // What costs mind greed too: by 9 the second hour can't be paid, so that the third has no prayer.
        GrottoHours y = Texts.town("grotto 1 0 0;guild 0 60 40 hires 0;costs (greed=9)*70;prays 1;");
        y.see(0, 2, 76);
        greedy(y, "60-1+9, 68-1+9", 1, 9, 0);
        y.see(0, 3, 85);
        greedy(y, "76+9", 1, 9, 0);
        y.see(0, 3, 84);
        greedy(y, "76-1+9 isn't so", 0, -1, 0);
    }

    private static void look() {
        GrottoHours x = Texts.town("guild 0 10 0;guild 1 10 0;guild 1 8 0;");
        // By greed 0 of guild 1, guild 0 is worst at once; guild 2 by 9 is worst behind the first hour.
        Check.same("look(0)", 1, x.look(0));
        Check.same("look(1)", 3, x.look(1));
        x.see(0, 1, 10);
        x.see(2, 1, 9);
        // Only guild 1 may be another: by 0 guild 0 is worst for two hours, and guild 2 from hour 3 on.
        Check.same("greedy(0)", 9, x.greedy(0));
        Check.same("look(0), guild 1", 1, x.look(0));
        Check.same("look(1), guild 1", 2, x.look(1));
        x.see(1, 1, 10);
        Check.same("look(0), one alone", 1, x.look(0));
        Check.same("look(1), one alone", 1, x.look(1));
        x.see(1, 1, 11);
        Check.same("look(0), none", -1, x.look(0));
        Check.same("look(1), none", 0, x.look(1));
        Check.noSuchElement("look(-1)", () -> x.look(-1));
        Check.noSuchElement("look(2)", () -> x.look(2));
        GrottoHours y = Texts.town("guild 0 50 0;guild 2 8 0;");
        y.see(0, 9, 50);
        // Guild 1 by 9 is above 50 behind 5 hours first (53), by others later, and by 0 never.
        Check.same("look(0) later", 5, y.look(0));
        Check.same("look(1) later", 2, y.look(1));
        // Guild 0 alone may be another; by greed 1 it has less than 100 in hour 19, and all is prayed away.
        GrottoHours z = Texts.town("grotto 1 0 0;guild 0 90 0 hires 0;guild 1 50 0;bound 99;"
            + "prays (hour=19)*(purse<100)*99;");
        z.see(1, 1, 51);
        Check.same("look(0) at last", 20, z.look(0));
        Check.same("look(1) at last", 2, z.look(1));
    }

    private static void forget() {
        GrottoHours x = Texts.town("guild 1 10 0;");
        x.see(0, 1, 50);
        x.see(0, 1, 100);
        x.forget();
        Check.same("seen", 0, x.count(10));
        Check.same("STATUS 2 stays", 1, x.count(14));
        Check.same("greedy(2)", 1, x.greedy(2));
        Check.same("see anew", 1, x.see(0, 1, 12));
        Check.same("greedy(1)", 2, x.greedy(1));
    }
}
