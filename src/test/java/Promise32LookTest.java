/** Promise 32, look: behind how many of 20 HOURS WORST would be most unlike. */
public final class Promise32LookTest {
    public static void main(String[] args) {
        Check.runAll(Promise32LookTest.class);
    }

    private static void look(GrottoHours x, String when, int hours, int many) {
        Check.same(when + ": look(0)", hours, x.look(0));
        Check.same(when + ": look(1)", many, x.look(1));
    }

    static void promise32AnotherWhat() {
        GrottoHours x = Texts.town("guild 0 10 0;guild 3 10 0;");
        for (int wrong : Edges.outside(0, 1)) {
            Facts.noSuchElement(x, "look(" + wrong + ")", () -> x.look(wrong));
        }
    }

    static void promise32NoneWithoutAny() {
        look(Texts.town(""), "no guilds", -1, 0);
        GrottoHours x = Texts.town("guild 0 10 0;guild 3 10 0;");
        x.see(0, 1, 10);
        x.see(1, 1, 13);
        look(x, "it is so without, and by no other", -1, 0);
        x.see(1, 2, 1);
        look(x, "never so", -1, 0);
    }

    static void promise32OneAlone() {
        look(Texts.town("guild 1 10 0;"), "one guild is always worst", 1, 1);
        GrottoHours x = Texts.town("guild 0 10 0;guild 1 10 0;");
        x.see(0, 1, 10);
        x.see(1, 1, 12);
        look(x, "one greed alone", 1, 1);
    }

    static void promise32MostUnlike() {
        GrottoHours x = Texts.town("guild 0 10 0;guild 1 10 0;guild 1 8 0;");
        // By greed 0 of guild 1, guild 0 is worst at once; guild 2 by 9 is worst behind the first hour.
        look(x, "three", 1, 3);
        x.see(0, 1, 10);
        x.see(2, 1, 9);
        // Only guild 1 may be another: by 0 guild 0 is worst for two hours, and guild 2 from hour 3 on.
        look(x, "guild 1", 1, 2);
        GrottoHours y = Texts.town("guild 0 50 0;".repeat(6));
        look(y, "each of six", 1, 6);
    }

    static void promise32BehindTheTwentiethButNotTheTwentyFirst() {
        // Guild 0 alone may be another; by greed 1 it has less than 100 in hour 19, and all is prayed away.
        String text = "grotto 1 0 0;guild 0 90 0 hires 0;guild 1 50 0;bound 99;prays (hour=19)*(purse<100)*99;";
        GrottoHours x = Texts.town(text);
        x.see(1, 1, 51);
        look(x, "hour 19", 20, 2);
        GrottoHours y = Texts.town(text.replace("hour=19", "hour=20"));
        y.see(1, 1, 51);
        look(y, "hour 20", 1, 1);
    }

    static void promise32OfLikeOnesTheFirst() {
        GrottoHours x = Texts.town("guild 0 50 0;guild 2 8 0;");
        x.see(0, 9, 50);
        // Guild 1 by 9 is above 50 behind 5 hours first (53), by others later, and by 0 never.
        look(x, "from hour 5 on", 5, 2);
        GrottoHours y = Texts.town("guild 0 50 0;guild 2 6 0;");
        y.see(0, 9, 50);
        // 6 and 45 are 51 behind 5.
        look(y, "51 is more", 5, 2);
        GrottoHours z = Texts.town("guild 0 51 0;guild 2 6 0;");
        z.see(0, 9, 51);
        // Like ones: the least is worst behind 5.
        look(z, "51 is like", 6, 2);
    }

    static void promise32WithoutTheTownAsItIs() {
        GrottoHours x = Texts.town("guild 0 10 0;guild 0 10 0;");
        x.see(0, 1, 10);
        // As it is, guild 0 is worst for ever, but by each greed of guild 1 that suits guild 1 is.
        Check.same("it is so without", 1, x.greedy(2));
        look(x, "greeds of guild 1", 1, 1);
        GrottoHours y = Texts.town("guild 0 10 0;guild 0 9 0;");
        y.see(0, 1, 10);
        // By 1 of guild 1 they are like behind 1, by 2 guild 1 is worst then.
        look(y, "greeds of guild 1", 1, 2);
    }

    static void promise32ChangesNothing() {
        GrottoHours x = Texts.town("grotto 1 0 9;guild 9 65 90 hires 0;guild 1 1 1;");
        x.hours(1);
        Facts before = Facts.of(x);
        x.look(0);
        x.look(1);
        before.areSo("look", x);
    }
}
