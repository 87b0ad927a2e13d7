/** Promises 15 to 24: then, dripping, first, dismissed, most, hush, chorus, together, rhythm, often. */
public final class AheadTest {
    public static void main(String[] args) {
        then();
        thenAtTheEnd();
        dripping();
        first();
        firstAt999Silences();
        dismissed();
        most();
        hushAndChorus();
        together();
        rhythm();
        often();
        nothingChanges();
        Check.end();
    }

    private static final int[] WRONG_HOURS = {-1, 61, Integer.MAX_VALUE, Integer.MIN_VALUE};

    private static void then() {
        GrottoHours x = Texts.town("grotto 2 0 10;guild 3 68 12 hires 0;guild 0 5 5;");
        // Hour 0: 68-5+3 is 66, 12+9-10 is 11. Hour 1: 69, 10. Hour 2: 67, 9. Hour 3: 70, 8. Hour 4: 68, 7.
        // Hour 5: 71, 6, a silence: 3. Hour 6: 69, 2. Hour 7: 72, 1, a silence: 0. Hour 8: 70, 9 is less than 10.
        int[][] want = {{68, 12, 0, 0}, {66, 11, 0, 0}, {69, 10, 0, 0}, {67, 9, 0, 0}, {70, 8, 0, 0}, {68, 7, 0, 0},
            {71, 3, 1, 0}, {69, 2, 1, 0}, {72, 0, 2, 0}, {70, 9, 2, -1}, {73, 9, 3, -1}};
        for (int i = 0; i < want.length; i++) {
            for (int j = 0; j < 4; j++) {
                int hours = i;
                int what = j;
                Check.same("then(0, " + i + ", " + j + ")", want[i][j], () -> x.then(0, hours, what));
            }
        }
        Check.same("then(0, 60, 0)", 99, x.then(0, 60, 0));
        Check.same("then(1, 60, 1)", 5, x.then(1, 60, 1));
        for (int wrong : WRONG_HOURS) {
            Check.illegalArgument("then(0, " + wrong + ", 0)", () -> x.then(0, wrong, 0));
            Check.noSuchElement("then(2, " + wrong + ", 0)", () -> x.then(2, wrong, 0));
            Check.noSuchElement("then(0, " + wrong + ", 4)", () -> x.then(0, wrong, 4));
        }
        Check.noSuchElement("then(-1, 1, 0)", () -> x.then(-1, 1, 0));
        Check.noSuchElement("then(0, 1, -1)", () -> x.then(0, 1, -1));
        Check.noSuchElement("then(0, 1, 4)", () -> x.then(0, 1, 4));
    }

    private static GrottoHours townInHour980(String text) {
        GrottoHours x = Texts.town(text);
        for (int i = 0; i < 49; i++) {
            x.hours(20);
        }
        return x;
    }

    private static void thenAtTheEnd() {
        GrottoHours x = townInHour980("guild 1 50 0;bound 1;");
        x.hours(19);
        Check.same("999 silences", 999, x.guild(0, 3));
        Check.same("999 at most", 999, x.then(0, 60, 2));
        Check.same("sin behind hour 999", 99, x.then(0, 60, 0));
    }

    private static void dripping() {
        GrottoHours x = Texts.town("wet 1 1 1 0;grotto 1 0 0;grotto 2 1 0;grotto 12 9 0;");
        int[] want = {1, 3, 1, 0, 1, 3, 1, 0};
        for (int i = 0; i < want.length; i++) {
            int k = i + 1;
            Check.same("dripping(" + k + ")", want[i], () -> x.dripping(k));
        }
        // Grotto 2 comes round in hours 3, 15, 27, 39, 51, which are dry.
        Check.same("dripping(52)", 0, x.dripping(52));
        x.hours(1);
        Check.same("dripping(1) in hour 1", 3, x.dripping(1));
        Check.same("dripping(60) in hour 1", 1, x.dripping(60));
        x.drain(0, true);
        Check.same("dripping(1), one drained", 2, x.dripping(1));
        Check.illegalArgument("dripping(0)", () -> x.dripping(0));
        for (int wrong : WRONG_HOURS) {
            Check.illegalArgument("dripping(" + wrong + ")", () -> x.dripping(wrong));
        }
    }

    private static void first() {
        GrottoHours x = Texts.town("guild 1 11 0;guild 1 10 0;guild 0 70 0;guild 0 71 0;guild 9 60 0;");
        Check.same("first(0)", 60, x.first(0));
        Check.same("first(1)", -1, x.first(1));
        Check.same("first(2)", -1, x.first(2));
        Check.same("first(3)", 1, x.first(3));
        Check.same("first(4)", 2, x.first(4));
        x.hours(5);
        Check.same("first(3) once more", 1, x.first(3));
        Check.same("first(1) later", 56, x.first(1));
        Check.noSuchElement("first(5)", () -> x.first(5));
        Check.noSuchElement("first(-1)", () -> x.first(-1));
    }

    private static void firstAt999Silences() {
        // Guild 0 is silent in each hour; 1 always but for what it confesses; 2 never.
        GrottoHours x = townInHour980("guild 0 99 0;guild 1 99 0;guild 0 70 0;");
        x.hours(18);
        Check.same("998 silences", 998, x.guild(0, 3));
        Check.same("first(0) with 998", 1, x.first(0));
        x.hours(1);
        Check.same("999 silences", 999, x.guild(0, 3));
        Check.same("first(0) with 999", 1, x.first(0));
        Check.same("first(1) with 999", 1, x.first(1));
        Check.same("first(2) in hour 999", -1, x.first(2));
        x.give(1, 100);
        Check.same("confess(1)", 49, x.confess(1));
        // 49 and 22 is 71, more than 70.
        Check.same("first(1) with 999, confessed", 22, x.first(1));
        x.give(0, 100);
        x.confess(0);
        Check.same("first(0) with 999, confessed", -1, x.first(0));
        Check.same("none are added to 999", 999, x.then(1, 60, 2));
    }

    private static void dismissed() {
        GrottoHours x = Texts.town("grotto 1 0 10;grotto 1 0 4;grotto 1 0 1;guild 0 0 30 hires 0;guild 1 0 60 hires 1;"
            + "guild 0 0 59 hires 2;guild 0 0 0;");
        Check.same("dismissed(0)", 4, x.dismissed(0));
        Check.same("dismissed(1)", -1, x.dismissed(1));
        Check.same("dismissed(2)", 60, x.dismissed(2));
        Check.same("dismissed(3) without any", -1, x.dismissed(3));
        x.give(2, 1);
        Check.same("dismissed(2) with one more", -1, x.dismissed(2));
        Check.noSuchElement("dismissed(4)", () -> x.dismissed(4));
        Check.noSuchElement("dismissed(-1)", () -> x.dismissed(-1));
    }

    private static void most() {
        GrottoHours x = Texts.town("guild 1 20 90;guild 2 20 90;guild 3 10 100;guild 3 10 100;");
        Check.same("most(0, 0)", 2, x.most(0, 0));
        Check.same("most(0, 1)", 0, x.most(0, 1));
        Check.same("most(1, 1)", 1, x.most(1, 1));
        Check.same("most(10, 1)", 1, x.most(10, 1));
        Check.same("most(11, 1)", 2, x.most(11, 1));
        for (int wrong : WRONG_HOURS) {
            Check.illegalArgument("most(" + wrong + ", 0)", () -> x.most(wrong, 0));
            Check.noSuchElement("most(" + wrong + ", 2)", () -> x.most(wrong, 2));
        }
        Check.noSuchElement("most(1, -1)", () -> x.most(1, -1));
        GrottoHours none = Texts.town("grotto 1 0 0;");
        Check.same("most without guilds", -1, none.most(60, 0));
        Check.same("most without guilds", -1, none.most(60, 1));
        Check.illegalArgument("most(61, 0) without guilds", () -> none.most(61, 0));
        GrottoHours zero = Texts.town("guild 0 0 0;guild 0 0 0;");
        Check.same("most of nothing", 0, zero.most(9, 0));
    }

    private static void hushAndChorus() {
        GrottoHours x = Texts.town("wet 1 0;grotto 6 2 0;grotto 4 0 0;grotto 12 4 0;");
        // Grotto 0 in 4, 10, 16 ..; grotto 1 in 0, 4, 8 ..; grotto 2 in 8, 20 ..; odd hours are dry.
        Check.same("hush(1)", 0, x.hush(1));
        Check.same("hush(2)", 1, x.hush(2));
        Check.same("hush(4)", 3, x.hush(4));
        Check.same("hush(60)", 3, x.hush(60));
        Check.same("chorus(1)", 1, x.chorus(1));
        Check.same("chorus(4)", 1, x.chorus(4));
        Check.same("chorus(60)", 5, x.chorus(60));
        x.hours(5);
        Check.same("hush(3) from hour 5", 3, x.hush(3));
        Check.same("chorus(5) from hour 5", 4, x.chorus(5));
        GrottoHours none = Texts.town("wet 0;grotto 1 0 0;");
        Check.same("hush of nothing", 60, none.hush(60));
        Check.same("chorus of nothing", 1, none.chorus(60));
        // The longest row may be the last one.
        GrottoHours last = Texts.town("grotto 12 10 0;");
        Check.same("hush(2), hour 2 drips", 2, last.hush(3));
        Check.same("hush(9)", 6, last.hush(9));
        for (int wrong : new int[] {-1, 0, 61, Integer.MAX_VALUE, Integer.MIN_VALUE}) {
            Check.illegalArgument("hush(" + wrong + ")", () -> x.hush(wrong));
            Check.illegalArgument("chorus(" + wrong + ")", () -> x.chorus(wrong));
        }
    }

    private static void together() {
        GrottoHours x = Texts.town("wet 0;grotto 11 1 0;grotto 12 1 0;grotto 7 1 0;grotto 5 1 0;grotto 9 1 0;"
            + "grotto 8 1 0;grotto 2 0 0;grotto 1 11 0;");
        Check.same("together(0)", 1, x.together(0));
        // The first hour h with h + 1 some times 11, 12, 7, 5, 9, 8 is 27719.
        Check.same("together(63)", 27720, x.together(63));
        Check.same("never together", -1, x.together(63 + 64));
        Check.same("together(128)", 1, x.together(128));
        Check.same("together(64)", 1, x.together(64));
        Check.same("together(3)", 132, x.together(3));
        x.hours(1);
        x.drain(0, true);
        Check.same("together(3) from hour 1", 131, x.together(3));
        Check.same("together(63) from hour 1", 27719, x.together(63));
        Check.same("together(64) from hour 1", 2, x.together(64));
        Check.illegalArgument("together(-1)", () -> x.together(-1));
        Check.illegalArgument("together(256)", () -> x.together(256));
        Check.illegalArgument("together(least)", () -> x.together(Integer.MIN_VALUE));
        GrottoHours y = Texts.town("grotto 3 0 0;grotto 4 3 0;");
        // Hours that 3 divides, and 1, 5, 9 ..: hour 9 is the 10th.
        Check.same("together of phases", 10, y.together(3));
        Check.illegalArgument("together(4)", () -> y.together(4));
        Check.illegalArgument("together of none", () -> new GrottoHours().together(1));
    }

    private static void rhythm() {
        GrottoHours x = Texts.town("grotto 11 1 0;grotto 12 0 0;grotto 7 3 0;grotto 5 0 0;grotto 9 0 0;grotto 8 0 0;"
            + "grotto 10 0 0;grotto 6 0 0;");
        x.drain(0, true);
        Check.same("rhythm(0)", 1, x.rhythm(0));
        Check.same("rhythm(255)", 27720, x.rhythm(255));
        Check.same("rhythm(2)", 12, x.rhythm(2));
        Check.same("rhythm(2+32)", 24, x.rhythm(34));
        Check.same("rhythm(2+16)", 36, x.rhythm(18));
        Check.same("rhythm(64+128)", 30, x.rhythm(192));
        Check.illegalArgument("rhythm(-1)", () -> x.rhythm(-1));
        Check.illegalArgument("rhythm(256)", () -> x.rhythm(256));
        Check.illegalArgument("rhythm of none", () -> new GrottoHours().rhythm(1));
    }

    private static void often() {
        GrottoHours x = Texts.town("wet 1 1 0;grotto 2 0 0;grotto 3 1 0;");
        Check.same("often(0, 0)", 0, x.often(0, 0));
        Check.same("often(0, 1)", 1, x.often(0, 1));
        Check.same("often(0, 6)", 2, x.often(0, 6));
        Check.same("often(0, 60)", 20, x.often(0, 60));
        Check.same("often(1, 60): its hours are dry", 0, x.often(1, 60));
        x.hours(2);
        Check.same("often(0, 3) from hour 2", 1, x.often(0, 3));
        x.drain(0, true);
        Check.same("often(0, 60), drained", 0, x.often(0, 60));
        for (int wrong : WRONG_HOURS) {
            Check.illegalArgument("often(0, " + wrong + ")", () -> x.often(0, wrong));
            Check.noSuchElement("often(2, " + wrong + ")", () -> x.often(2, wrong));
        }
        Check.noSuchElement("often(-1, 1)", () -> x.often(-1, 1));
    }

    private static void nothingChanges() {
        GrottoHours x = Texts.town("grotto 2 0 3;hollow 3 1 5;guild 4 30 20 hires 0;guild 9 69 500 hires 1;");
        x.hours(1);
        x.then(1, 60, 0);
        x.first(0);
        x.dismissed(0);
        x.most(60, 1);
        x.toHire(1, 60, 0);
        x.toGive(0, 60);
        x.confessing(1, 60);
        x.greedy(0);
        x.look(0);
        x.drought(1, 5, 5);
        x.game(0, 1, 0);
        x.years(7, 60, 0);
        x.shared(0);
        int[] want = {2, 2, 1, 5, 70, 3, 0, 29 + 261, 29 + 78, 1, 0, 0, 0, 0, 0};
        for (int i = 0; i < want.length; i++) {
            int what = i;
            Check.same("still count(" + i + ")", want[i], () -> x.count(what));
        }
    }
}
