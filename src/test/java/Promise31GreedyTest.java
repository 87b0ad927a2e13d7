/** Promise 31, greedy: GUILDS and GREEDS by one of which all that is SEEN would be so. */
public final class Promise31GreedyTest {
    public static void main(String[] args) {
        Check.runAll(Promise31GreedyTest.class);
    }

    private static void greedy(GrottoHours x, String when, int many, int first, int without) {
        Check.same(when + ": greedy(0)", many, x.greedy(0));
        Check.same(when + ": greedy(1)", first, x.greedy(1));
        Check.same(when + ": greedy(2)", without, x.greedy(2));
    }

    static void promise31AnotherWhat() {
        GrottoHours x = Texts.town("guild 0 10 0;guild 3 10 0;");
        for (int wrong : Edges.outside(0, 2)) {
            Facts.noSuchElement(x, "greedy(" + wrong + ")", () -> x.greedy(wrong));
        }
    }

    static void promise31NothingIsSeen() {
        greedy(Texts.town(""), "no guilds", 0, -1, 1);
        greedy(Texts.town("guild 1 10 0;"), "one of greed 1", 9, 0, 1);
        greedy(Texts.town("guild 0 10 0;"), "one of greed 0", 9, 1, 1);
        greedy(Texts.town("guild 9 10 0;"), "one of greed 9", 9, 0, 1);
        greedy(Texts.town("guild 0 10 0;".repeat(6)), "six", 54, 1, 1);
    }

    static void promise31AnotherGreedThanItHas() {
        for (int greed = 0; greed <= 9; greed++) {
            GrottoHours x = Texts.town("guild " + greed + " 10 0;");
            x.see(0, 1, 10 + greed);
            greedy(x, "as it is", 0, -1, 1);
        }
    }

    static void promise31GreedsFrom0To9() {
        for (int greed = 0; greed <= 9; greed++) {
            GrottoHours x = Texts.town("guild " + (greed + 5) % 10 + " 10 0;");
            x.see(0, 1, 10 + greed);
            greedy(x, "greed " + greed, 1, greed, 0);
        }
        GrottoHours x = Texts.town("guild 5 10 0;");
        x.see(0, 1, 20);
        greedy(x, "greed 10", 0, -1, 0);
        GrottoHours y = Texts.town("guild 5 10 0;");
        y.see(0, 1, 9);
        greedy(y, "greed -1", 0, -1, 0);
    }

    static void promise31TheFirstIsTenByTheGuild() {
        GrottoHours x = Texts.town("guild 0 10 0;".repeat(6));
        x.see(5, 1, 19);
        greedy(x, "guild 5, greed 9", 1, 59, 0);
        x.forget();
        x.see(0, 1, 11);
        greedy(x, "guild 0, greed 1", 1, 1, 0);
        x.forget();
        x.see(3, 20, 99);
        // 10 and 20 times 5 is above 99: 5 to 9.
        greedy(x, "guild 3, greeds 5 to 9", 5, 35, 0);
    }

    static void promise31BehindNoHoursAndBehindTwenty() {
        GrottoHours x = Texts.town("guild 0 10 0;guild 3 10 0;");
        x.see(0, 0, 10);
        greedy(x, "what is so now", 18, 1, 1);
        x.see(1, 0, 10);
        greedy(x, "of the other one, too", 18, 1, 1);
        x.see(0, 20, 90);
        greedy(x, "behind twenty", 1, 4, 0);
        x.see(0, 0, 11);
        greedy(x, "what isn't so now", 0, -1, 0);
    }

    static void promise31AllThatIsSeen() {
        GrottoHours x = Texts.town("guild 1 10 0;guild 2 10 0;guild 3 10 0;");
        x.see(0, 1, 11);
        x.see(1, 1, 17);
        x.see(2, 1, 13);
        greedy(x, "guild 1 has 7", 1, 17, 0);
        x.see(1, 2, 24);
        greedy(x, "still", 1, 17, 0);
        x.see(2, 2, 17);
        greedy(x, "two would be greedy", 0, -1, 0);
    }

    static void promise31AllEightAreLookedAt() {
        GrottoHours x = Texts.town("guild 1 10 0;");
        for (int hours = 1; hours <= 7; hours++) {
            x.see(0, hours, 10 + 4 * hours);
        }
        greedy(x, "seven", 1, 4, 0);
        x.see(0, 8, 43);
        greedy(x, "the eighth isn't so", 0, -1, 0);
    }

    static void promise31WhetherItIsSoWithout() {
        GrottoHours x = Texts.town("guild 1 10 0;guild 1 10 0;");
        x.see(0, 3, 13);
        greedy(x, "as it is", 9, 10, 1);
        x.see(1, 3, 13);
        greedy(x, "both as they are", 0, -1, 1);
        x.see(1, 4, 13);
        greedy(x, "not so", 0, -1, 0);
    }

    static void promise31FromNowOn() {
        GrottoHours x = Texts.town("grotto 2 0 0;guild 4 50 0 hires 0;");
        x.see(0, 1, 46);
        greedy(x, "46 behind an hour", 1, 1, 0);
        x.hours(1);
        // Now 49 in hour 1, where nothing drips: no greed makes it 46.
        greedy(x, "46 behind another hour", 0, -1, 0);
        x.undo();
        greedy(x, "undone", 1, 1, 0);
        x.drain(0, true);
        greedy(x, "drained: 50 can't become 46", 0, -1, 0);
    }

    static void promise31GreedFillsThePurseToo() {
        // By 9 the first hour costs 50 of 67, the second 50 of 44: no prayer in the third.
        GrottoHours y = Texts.town("grotto 1 0 0;guild 0 60 40 hires 0;costs (greed=9)*70;prays 1;");
        y.see(0, 2, 76);
        greedy(y, "60-1+9, 68-1+9", 1, 9, 0);
        y.see(0, 3, 85);
        greedy(y, "76+9", 1, 9, 0);
        y.see(0, 3, 84);
        greedy(y, "76-1+9 isn't so", 0, -1, 0);
        // Three times the greed come to the purse: 12 can be paid from greed 4 on.
        GrottoHours z = Texts.town("grotto 1 0 12;guild 0 50 0 hires 0;prays 30;");
        z.see(0, 2, 28);
        greedy(z, "50-30+4, 24-30 is 0, and 4", 0, -1, 0);
        z.forget();
        z.see(0, 2, 4);
        greedy(z, "by 4", 1, 4, 0);
        z.forget();
        z.see(0, 2, 26);
        greedy(z, "by 3 it can't pay: 23, 26", 1, 3, 0);
    }

    static void promise31ByTheWetOfEachHour() {
        // Hours 1 and 2 are dry: by greed 3 it has 48, 51, 54, 52.
        GrottoHours x = Texts.town("wet 1 0 0;grotto 1 0 0;guild 0 50 0 hires 0;");
        x.see(0, 3, 54);
        greedy(x, "behind three", 1, 3, 0);
        x.see(0, 4, 52);
        greedy(x, "behind four", 1, 3, 0);
        x.see(0, 1, 48);
        greedy(x, "behind one", 1, 3, 0);
        x.see(0, 2, 51);
        greedy(x, "behind two", 1, 3, 0);
    }

    static void promise31ChangesNothing() {
        GrottoHours x = Texts.town("grotto 1 0 9;guild 9 65 90 hires 0;");
        x.hours(1);
        x.see(0, 1, 1);
        Facts before = Facts.of(x);
        for (int what = 0; what < 3; what++) {
            x.greedy(what);
        }
        before.areSo("greedy", x);
    }
}
