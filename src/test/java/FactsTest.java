/** Promises 5 to 7: count, grotto, guild. */
public final class FactsTest {
    public static void main(String[] args) {
        counts();
        grottoes();
        guilds();
        costs();
        Check.end();
    }

    private static final String TOWN = "wet 0 3 7;grotto 3 2 4;hollow 12 11 20;grotto 1 0 0;"
        + "guild 4 30 200;guild 9 99 999 hires 1;guild 0 0 0 hires 2;bound 98;";

    private static void counts() {
        GrottoHours x = Texts.town(TOWN);
        int[] want = {3, 3, 0, 0, 98, 6, 0, 1199, 129, 0, 0, 0, 0, 0, 0};
        for (int i = 0; i < want.length; i++) {
            int what = i;
            Check.same("count(" + i + ")", want[i], () -> x.count(what));
        }
        Check.noSuchElement("count(-1)", () -> x.count(-1));
        Check.noSuchElement("count(15)", () -> x.count(15));
        Check.noSuchElement("count(least)", () -> x.count(Integer.MIN_VALUE));
        x.drain(2, true);
        x.drain(0, true);
        x.hours(1);
        x.see(0, 0, 0);
        x.see(0, 0, 1);
        x.see(0, 0, 100);
        x.hire(0, 1);
        x.hire(0, 2);
        Texts.feed(x, "12345678901234567890");
        // Guild 1: 999 + 27 is 999, less 20 by price, halved by a silence (99 is more than 98).
        int[] then = {3, 3, 1, 3, 98, 6, 5, 212 + 489 + 0, 34 + 99 + 0, 3, 2, 20, 0, 2, 1};
        for (int i = 0; i < then.length; i++) {
            int what = i;
            Check.same("then count(" + i + ")", then[i], () -> x.count(what));
        }
    }

    private static void grottoes() {
        GrottoHours x = Texts.town(TOWN);
        // Grotto 0 drips in hours 1, 4, 7 .., where wet is 3; grotto 1 in 1, 13 ..; grotto 2 in each wet one.
        int[][] want = {{3, 2, 4, 0, 0, -1, 2}, {12, 11, 20, 1, 0, 1, 2}, {1, 0, 0, 0, 0, 2, 2}};
        for (int i = 0; i < 3; i++) {
            for (int j = 0; j < 7; j++) {
                int grotto = i;
                int what = j;
                Check.same("grotto(" + i + ", " + j + ")", want[i][j], () -> x.grotto(grotto, what));
            }
        }
        x.drain(0, true);
        Check.same("drained", 1, x.grotto(0, 4));
        Check.same("drained: next", -1, x.grotto(0, 6));
        x.hours(2);
        Check.same("next of 1 from hour 2", 12, x.grotto(1, 6));
        Check.same("next of 2 from hour 2", 1, x.grotto(2, 6));
        for (int wrong : new int[] {-1, 3, 8, Integer.MAX_VALUE, Integer.MIN_VALUE}) {
            Check.noSuchElement("no such grotto", () -> x.grotto(wrong, 0));
        }
        for (int wrong : new int[] {-1, 7, Integer.MAX_VALUE, Integer.MIN_VALUE}) {
            Check.noSuchElement("no such what", () -> x.grotto(0, wrong));
        }
        GrottoHours dry = Texts.town("wet 0;grotto 1 0 0;");
        Check.same("never next", -1, dry.grotto(0, 6));
        GrottoHours late = Texts.town("wet 0 0 0 0 0 0 0 1;grotto 11 0 0;");
        // Hours 7, 15, 23, 31, 39, 47, 55 are wet: 55 is the first of them that 11 divides, the 56th hour.
        Check.same("late next", 56, late.grotto(0, 6));
        // Hours 3, 10, 17 .. are wet, and 4, 15, 26 .. come round: 59 is the first that does both, the 60th hour.
        GrottoHours latest = Texts.town("wet 0 0 0 1 0 0 0;grotto 11 7 0;");
        Check.same("the latest next", 60, latest.grotto(0, 6));
        latest.hours(20);
        Check.same("the same from hour 20", 40, latest.grotto(0, 6));
        latest.hours(20);
        latest.hours(20);
        Check.same("none from hour 60", -1, latest.grotto(0, 6));
        Check.isTrue("drain", late.drain(0, true) && late.drain(0, false));
        Check.same("late next again", 56, late.grotto(0, 6));
    }

    private static void guilds() {
        GrottoHours x = Texts.town(TOWN);
        int[][] want = {{4, 30, 200, 0, -1, 0}, {9, 99, 999, 0, 1, 20}, {0, 0, 0, 0, 2, 0}};
        for (int i = 0; i < 3; i++) {
            for (int j = 0; j < 6; j++) {
                int guild = i;
                int what = j;
                Check.same("guild(" + i + ", " + j + ")", want[i][j], () -> x.guild(guild, what));
            }
        }
        x.hours(3);
        Check.same("silences", 2, x.guild(1, 3));
        for (int wrong : new int[] {-1, 3, 6, Integer.MAX_VALUE, Integer.MIN_VALUE}) {
            Check.noSuchElement("no such guild", () -> x.guild(wrong, 0));
        }
        for (int wrong : new int[] {-1, 6, Integer.MAX_VALUE, Integer.MIN_VALUE}) {
            Check.noSuchElement("no such what", () -> x.guild(0, wrong));
        }
    }

    private static void cost(String rule, int want) {
        GrottoHours x = Texts.town("wet 0 7;grotto 3 0 4;guild 5 60 700 hires 0;bound 99;costs " + rule + ";");
        Check.same("costs " + rule, want, x.guild(0, 5));
    }

    private static void costs() {
        cost("7", 7);
        cost("50", 50);
        cost("51", 50);
        cost("0-1", 0);
        cost("sin", 50);
        cost("sin-20", 40);
        cost("purse/100", 7);
        cost("drip", 3);
        cost("price", 4);
        cost("wet+1", 1);
        cost("hour+2", 2);
        cost("greed", 5);
        cost("2+3*4", 14);
        cost("(2+3)*4", 20);
        cost("20-3-4", 13);
        cost("40/3/2", 6);
        cost("(0-7)/2+10", 7);
        cost("7/0+3", 3);
        cost("10/3*3", 9);
        cost("2<3", 1);
        cost("3<3", 0);
        cost("3=3", 1);
        cost("3=4", 0);
        cost("1+1<3", 1);
        cost("7 and 8", 1);
        cost("7 and 0", 0);
        cost("0 or 9", 1);
        cost("0 or 0", 0);
        cost("1 or 1 and 0", 1);
        cost("(1 or 1)and 0", 0);
        cost("not 7", 0);
        cost("not 0", 1);
        cost("not not 7", 1);
        cost("not 1<0", 1);
        cost("not 0 and 0", 0);
        cost("not(0 and 0)*9", 1);
        cost("(not 0)*9", 9);
        cost("(7)", 7);
        cost("9999*9999*9999*9999/9999/9999/9999", 0);
        cost("9999*9999*9999/9999999".substring(0, 14) + "/9999/100", wrapped());
        cost("(0-2)*8192*8192*16/(0-1)<0", 1);
        GrottoHours later = Texts.town("wet 0 7;grotto 3 0 4;guild 5 60 700 hires 0;bound 99;costs wet*5+hour;");
        Check.same("in hour 0", 0, later.guild(0, 5));
        later.hours(1);
        Check.same("in hour 1", 36, later.guild(0, 5));
        later.dismiss(0);
        Check.same("without a grotto", 0, later.guild(0, 5));
    }

    private static int wrapped() {
        int much = 9999 * 9999 * 9999 / 9999 / 100;
        return much < 0 ? 0 : Math.min(50, much);
    }
}
