/** Promise 7, guild: what there is of a GUILD, and what COSTS gives. */
public final class Promise07GuildTest {
    public static void main(String[] args) {
        Check.runAll(Promise07GuildTest.class);
    }

    static void promise07NoSuchGuild() {
        GrottoHours x = Texts.town("guild 1 1 1;guild 1 1 1;");
        for (int wrong : Edges.outside(0, 1)) {
            for (int what : new int[] {0, 5, 6, -1}) {
                Check.noSuchElement("guild(" + wrong + ", " + what + ")", () -> x.guild(wrong, what));
            }
        }
        GrottoHours all = Texts.town(Edges.SIX_GUILDS);
        Check.same("the last of six", 0, all.guild(5, 0));
        Check.noSuchElement("the seventh", () -> all.guild(6, 0));
        Facts.noSuchElement(x, "guild(2, 0)", () -> x.guild(2, 0));
    }

    static void promise07AnotherWhat() {
        GrottoHours x = Texts.town("guild 1 1 1;guild 1 1 1;");
        for (int wrong : Edges.outside(0, 5)) {
            Check.noSuchElement("guild(1, " + wrong + ")", () -> x.guild(1, wrong));
        }
        Facts.noSuchElement(x, "guild(0, 6)", () -> x.guild(0, 6));
    }

    static void promise07LeastAndMostOfEach() {
        GrottoHours x = Texts.town("grotto 1 0 0;grotto 1 0 20;guild 0 0 0;guild 9 99 999 hires 1;guild 1 2 3 hires 0;");
        int[][] want = {{0, 0, 0, 0, -1, 0}, {9, 99, 999, 0, 1, 20}, {1, 2, 3, 0, 0, 0}};
        for (int guild = 0; guild < 3; guild++) {
            for (int what = 0; what < 6; what++) {
                Check.same("guild(" + guild + ", " + what + ")", want[guild][what], x.guild(guild, what));
            }
        }
    }

    static void promise07SilencesFrom0To999() {
        GrottoHours x = Edges.townInHour(979, "guild 0 99 0;guild 0 70 0;");
        Check.same("a silence in each hour", 979, x.guild(0, 3));
        Check.same("never one", 0, x.guild(1, 3));
        x.hours(20);
        Check.same("the most", 999, x.guild(0, 3));
        Check.same("never one", 0, x.guild(1, 3));
    }

    static void promise07TheGrottoItHas() {
        GrottoHours x = Texts.town(Edges.EIGHT_GROTTOES + "guild 0 0 0 hires 7;guild 0 0 0 hires 0;guild 0 0 0;");
        Check.same("the last", 7, x.guild(0, 4));
        Check.same("the first", 0, x.guild(1, 4));
        Check.same("none", -1, x.guild(2, 4));
        x.dismiss(0);
        Check.same("none any more", -1, x.guild(0, 4));
    }

    private static int cost(String rule) {
        return Texts.town("grotto 3 0 4;guild 5 60 700 hires 0;costs " + rule + ";").guild(0, 5);
    }

    static void promise07CostIsKeptFrom0To50() {
        Check.same("49", 49, cost("49"));
        Check.same("50", 50, cost("50"));
        Check.same("51", 50, cost("51"));
        Check.same("9999", 50, cost("9999"));
        Check.same("the highest", 50, cost("8192*8192*32-1"));
        Check.same("1", 1, cost("1"));
        Check.same("0", 0, cost("0"));
        Check.same("-1", 0, cost("0-1"));
        Check.same("the lowest", 0, cost("8192*8192*32"));
    }

    static void promise07CostIsThePriceWithoutCosts() {
        Check.same("the least", 0, Texts.town("grotto 1 0 0;guild 5 60 700 hires 0;").guild(0, 5));
        Check.same("the most", 20, Texts.town("grotto 1 0 20;guild 5 60 700 hires 0;").guild(0, 5));
        Check.same("a hollow one too", 9, Texts.town("hollow 1 0 9;guild 5 60 700 hires 0;").guild(0, 5));
    }

    static void promise07CostIsNothingWithoutAGrotto() {
        GrottoHours x = Texts.town("grotto 1 0 20;guild 5 60 700 hires 0;guild 5 60 700;costs 30;");
        Check.same("with one", 30, x.guild(0, 5));
        Check.same("without", 0, x.guild(1, 5));
        x.dismiss(0);
        Check.same("without any more", 0, x.guild(0, 5));
        x.hire(1, 0);
        Check.same("with one now", 30, x.guild(1, 5));
    }

    static void promise07CostIsOfNow() {
        GrottoHours x = Texts.town("wet 1 6;grotto 1 0 2;grotto 1 0 9;guild 2 40 30 hires 0;prays 0;"
            + "costs (hour=0)*(wet+price)+(hour=1)*(sin-40+wet+price+purse-30);");
        Check.same("hour 0: 1 and 2", 3, x.guild(0, 5));
        x.hours(1);
        // Sin 42; purse 30 and 6, less what the rule gives behind that: 3.
        Check.same("hour 1: 2 and 6 and 2 and 3", 13, x.guild(0, 5));
        x.hire(0, 1);
        Check.same("a dearer one", 20, x.guild(0, 5));
        x.give(0, 10);
        Check.same("a richer one", 30, x.guild(0, 5));
        x.undo();
        Check.same("undone", 20, x.guild(0, 5));
    }

    static void promise07CostIsNotKeptToThePurse() {
        Check.same("more than it has", 20, Texts.town("grotto 1 0 20;guild 0 0 19 hires 0;").guild(0, 5));
        Check.same("of a drained one", 20, drainedCost());
    }

    private static int drainedCost() {
        GrottoHours x = Texts.town("wet 0;grotto 1 0 20;guild 0 0 19 hires 0;");
        x.drain(0, true);
        return x.guild(0, 5);
    }
}
