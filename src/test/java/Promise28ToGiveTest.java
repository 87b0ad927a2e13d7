/** Promise 28, toGive: the least PURSE of 0 to 999 by which a GUILD has its GROTTO still behind 1 to 60 HOURS. */
public final class Promise28ToGiveTest {
    public static void main(String[] args) {
        Check.runAll(Promise28ToGiveTest.class);
    }

    private static void toGive(String text, int hours, int want) {
        Check.same("toGive(0, " + hours + ") of " + text, want, Texts.town(text).toGive(0, hours));
    }

    static void promise28TheLeastPurse() {
        String text = "grotto 1 0 10;guild 1 0 500 hires 0;";
        // It pays 10 and gains 3 each hour: 7 for each of them.
        toGive(text, 1, 7);
        toGive(text, 10, 70);
        toGive(text, 60, 420);
    }

    static void promise28NothingIsNeeded() {
        toGive("grotto 1 0 0;guild 0 0 9 hires 0;", 60, 0);
        toGive("grotto 1 0 3;guild 1 0 9 hires 0;", 60, 0);
        toGive("grotto 1 0 4;guild 1 0 9 hires 0;", 1, 1);
        toGive("grotto 1 0 0;guild 0 0 9 hires 0;costs 0-5;", 60, 0);
        toGive("grotto 1 0 0;guild 0 0 9 hires 0;costs purse;", 1, 0);
        toGive("grotto 1 0 0;guild 1 0 9 hires 0;costs purse-purse;", 60, 0);
        toGive("grotto 1 0 3;guild 1 0 9 hires 0;costs price+0*purse;", 60, 0);
        toGive("grotto 1 0 4;guild 1 0 9 hires 0;costs price+0*purse;", 1, 1);
    }

    static void promise28NineHundredNinetyNineAreTheMost() {
        String text = "grotto 1 0 20;guild 0 0 0 hires 0;";
        toGive(text, 49, 980);
        toGive(text, 50, -1);
        toGive(text, 60, -1);
        // 19 times 50 and 49 are 999, and 20 times 50 are 1000.
        toGive("grotto 1 0 0;guild 0 0 0 hires 0;costs (hour<19)*50+(hour=19)*49;", 20, 999);
        toGive("grotto 1 0 0;guild 0 0 0 hires 0;costs (hour<19)*50+(hour=19)*49;", 60, 999);
        toGive("grotto 1 0 0;guild 0 0 0 hires 0;costs (hour<20)*50;", 20, -1);
        toGive("grotto 1 0 0;guild 0 0 0 hires 0;costs (hour<19)*50+(hour=19)*49+(purse<0);", 20, 999);
        toGive("grotto 1 0 0;guild 0 0 0 hires 0;costs (hour<20)*50+(purse<0);", 20, -1);
    }

    static void promise28NoneWithoutAGrotto() {
        GrottoHours x = Texts.town("grotto 1 0 20;guild 0 0 999;guild 0 0 0 hires 0;");
        Check.same("it has none", -1, x.toGive(0, 1));
        Check.same("the other one", 20, x.toGive(1, 1));
        x.dismiss(1);
        Check.same("it has none any more", -1, x.toGive(1, 1));
        Check.illegalArgument("toGive(0, 0)", () -> x.toGive(0, 0));
        Check.illegalArgument("toGive(0, 61)", () -> x.toGive(0, 61));
    }

    static void promise28InPlaceOfItsOwnPurse() {
        // However much it has: what it must have stays the same.
        for (int purse : new int[] {0, 6, 7, 999}) {
            toGive("grotto 1 0 10;guild 1 0 " + purse + " hires 0;", 1, 7);
        }
        GrottoHours x = Texts.town("grotto 1 0 10;guild 1 0 500 hires 0;");
        Facts before = Facts.of(x);
        x.toGive(0, 60);
        before.areSo("toGive", x);
    }

    static void promise28OneToSixtyAreTaken() {
        GrottoHours x = Texts.town("grotto 1 0 10;guild 0 0 0 hires 0;guild 0 0 0;");
        Check.same("toGive(0, 1)", 10, x.toGive(0, 1));
        Check.same("toGive(0, 59)", 590, x.toGive(0, 59));
        Check.same("toGive(0, 60)", 600, x.toGive(0, 60));
        for (int wrong : Edges.outside(1, 60)) {
            Check.illegalArgument("toGive(0, " + wrong + ")", () -> x.toGive(0, wrong));
            Check.illegalArgument("toGive(1, " + wrong + ")", () -> x.toGive(1, wrong));
        }
        Facts.illegalArgument(x, "toGive(0, 0)", () -> x.toGive(0, 0));
        Facts.illegalArgument(x, "toGive(0, 61)", () -> x.toGive(0, 61));
    }

    static void promise28NoSuchGuildComesFirst() {
        GrottoHours x = Texts.town("grotto 1 0 10;guild 0 0 0 hires 0;guild 0 0 0;");
        for (int wrong : Edges.outside(0, 1)) {
            for (int hours : new int[] {1, 60, 0, 61}) {
                Check.noSuchElement("toGive(" + wrong + ", " + hours + ")", () -> x.toGive(wrong, hours));
            }
        }
        Facts.noSuchElement(x, "toGive(2, 61)", () -> x.toGive(2, 61));
        GrottoHours six = Texts.town("grotto 1 0 10;" + "guild 0 0 0;".repeat(5) + "guild 0 0 0 hires 0;");
        Check.same("the last of six", 10, six.toGive(5, 1));
        Check.noSuchElement("the seventh", () -> six.toGive(6, 1));
    }

    static void promise28WithSilences() {
        // Each hour pays 10 and leaves half: 10, then 30, then 70.
        String text = "grotto 1 0 10;guild 0 90 0 hires 0;prays 0;";
        toGive(text, 1, 10);
        toGive(text, 2, 30);
        toGive(text, 3, 70);
        // Behind six hours 630, behind seven 1270.
        toGive(text, 6, 630);
        toGive(text, 7, -1);
    }

    static void promise28WhereMoreDoesHarm() {
        // From 60 on the first hour costs 50, so that 10 are left for the second, which costs 20; below 20 it costs 50.
        String text = "grotto 1 0 0;guild 0 0 0 hires 0;costs (hour=0)*(59<purse or purse<20)*50+(hour=1)*20;";
        toGive(text, 1, 20);
        toGive(text, 2, 20);
        // Only 300 to 400 cost nothing, and 50 times five are 250.
        String other = "grotto 1 0 0;guild 0 0 0 hires 0;costs (purse<300 or 400<purse)*50;";
        toGive(other, 5, 250);
        toGive(other, 6, 300);
        toGive(other, 60, 300);
        // Only 37 is good.
        toGive("grotto 1 0 0;guild 0 0 0 hires 0;costs (not purse=37)*50;", 60, 37);
        toGive("grotto 1 0 0;guild 0 0 0 hires 0;costs (not purse=37)*50;", 1, 37);
    }

    static void promise28WherePrayersMindThePurse() {
        // 40 and more pray nothing away: 70 and 1 is a silence.
        toGive("grotto 1 0 10;guild 1 70 0 hires 0;prays (purse<40)*99;", 4, 28);
        toGive("grotto 1 0 10;guild 1 70 0 hires 0;prays (39<purse)*99;", 4, 40);
        // 50 is prayed for and lasts five hours; 56 to 89 are halved by a silence, and don't last; 90 does.
        toGive("grotto 1 0 10;guild 0 80 0 hires 0;prays (purse<56)*99;", 5, 50);
    }

    static void promise28NoMoreThan999IsTried() {
        // Who is prayed for pays nothing, all others pay 50 for each hour.
        String text = "grotto 1 0 0;guild 0 80 0 hires 0;costs (0<sin)*50;prays ";
        toGive(text + "(998<purse)*99;", 60, 999);
        toGive(text + "(999<purse)*99;", 60, -1);
        toGive(text + "(purse<0)*99;", 60, -1);
        toGive(text + "(purse<1)*99;", 60, 0);
    }

    static void promise28ByTheWetOfEachHour() {
        String text = "wet 3 0 8;grotto 1 0 0;guild 0 0 0 hires 0;costs wet;";
        toGive(text, 1, 3);
        toGive(text, 2, 3);
        toGive(text, 3, 11);
        toGive(text, 60, 220);
        Check.same("from hour 2", 11, Edges.townInHour(2, text.replace("0 0 0 hires", "0 0 99 hires")).toGive(0, 2));
    }
}
