/** Promise 22, together: the first HOUR from now in which some GROTTOES all drip. */
public final class Promise22TogetherTest {
    public static void main(String[] args) {
        Check.runAll(Promise22TogetherTest.class);
    }

    static void promise22NoneOfThem() {
        GrottoHours x = Texts.town("grotto 12 1 0;");
        Check.same("together(0)", 1, x.together(0));
        x.hours(5);
        Check.same("together(0) from hour 5", 1, x.together(0));
        Check.same("of no grottoes", 1, Texts.town("").together(0));
    }

    static void promise22OneOfThem() {
        GrottoHours x = Texts.town("grotto 12 1 0;grotto 12 0 0;grotto 1 11 0;grotto 3 11 0;");
        Check.same("hour 11", 12, x.together(1));
        Check.same("hour 0", 1, x.together(2));
        Check.same("each hour", 1, x.together(4));
        Check.same("a phase above its drip: hour 1", 2, x.together(8));
    }

    static void promise22AllOfThem() {
        GrottoHours x = Texts.town("grotto 3 0 0;grotto 4 3 0;");
        // Hours that 3 divides, and 1, 5, 9 ..: hour 9 is the 10th.
        Check.same("together(3)", 10, x.together(3));
        x.hours(9);
        Check.same("from hour 9", 1, x.together(3));
        x.hours(1);
        Check.same("from hour 10", 12, x.together(3));
    }

    static void promise22TheLatestThereIs() {
        String text = "grotto 11 1 0;grotto 12 1 0;grotto 7 1 0;grotto 5 1 0;grotto 9 1 0;grotto 8 1 0;"
            + "grotto 10 1 0;grotto 6 1 0;";
        GrottoHours x = Texts.town(text);
        // The first hour h with h + 1 some times all of them is 27719.
        Check.same("together(255)", 27720, x.together(255));
        Check.same("together(63)", 27720, x.together(63));
        x.hours(1);
        Check.same("an hour on", 27719, x.together(255));
        Check.same("from hour 999", 27720 - 999, Edges.townInHour(999, text).together(255));
        // By phase 0 it is just past in hour 1.
        GrottoHours y = Edges.townInHour(1, text.replace(" 1 0;", " 0 0;"));
        Check.same("just past", 27720, y.together(255));
    }

    static void promise22NeverTogether() {
        GrottoHours x = Texts.town("grotto 2 0 0;grotto 2 1 0;grotto 4 1 0;grotto 4 3 0;grotto 6 1 0;grotto 6 3 0;"
            + "grotto 9 1 0;grotto 12 0 0;");
        Check.same("even and odd", -1, x.together(3));
        Check.same("4 by 1 and 3", -1, x.together(4 + 8));
        Check.same("6 by 1 and 3", -1, x.together(16 + 32));
        Check.same("6 by 1 and 9 by 1", 18, x.together(16 + 64));
        Check.same("6 by 3 and 9 by 1", -1, x.together(32 + 64));
        Check.same("all", -1, x.together(255));
        x.hours(1);
        Check.same("even and odd from hour 1", -1, x.together(3));
        // Whatever is told behind two that are never together.
        GrottoHours y = Texts.town("grotto 2 0 0;grotto 2 1 0;grotto 3 0 0;grotto 5 4 0;");
        Check.same("and one of 3", -1, y.together(7));
        Check.same("and one of 5", -1, y.together(11));
        Check.same("and both", -1, y.together(15));
    }

    static void promise22WereItWetAndNoneDrained() {
        GrottoHours x = Texts.town("wet 0;grotto 3 1 0;grotto 4 1 0;");
        x.drain(0, true);
        Check.same("together(3)", 12, x.together(3));
        Check.same("together(1)", 3, x.together(1));
    }

    static void promise22NotBitsOfGrottoes() {
        GrottoHours x = Texts.town("grotto 3 1 0;grotto 4 1 0;");
        Check.same("the highest bits", 12, x.together(3));
        for (int wrong : Edges.outside(0, 3)) {
            Facts.illegalArgument(x, "together(" + wrong + ")", () -> x.together(wrong));
        }
        Check.illegalArgument("together(5)", () -> x.together(5));
        Check.illegalArgument("together(256)", () -> x.together(256));
        GrottoHours all = Texts.town(Edges.EIGHT_GROTTOES);
        Check.same("together(255)", 1, all.together(255));
        Check.illegalArgument("together(256)", () -> all.together(256));
        Check.illegalArgument("together(511)", () -> all.together(511));
        Check.illegalArgument("together(1) of none", () -> Texts.town("").together(1));
        Check.illegalArgument("together(-1) of none", () -> Texts.town("").together(-1));
    }

    static void promise22HourByHour() {
        // Each pair of drips and phases, against each hour in turn.
        for (int drip = 1; drip <= 12; drip++) {
            for (int other = 1; other <= 12; other++) {
                int phase = (drip * 5 + other) % 12;
                int otherPhase = (drip + other * 7) % 12;
                int hour = (drip + other) % 4;
                int want = -1;
                for (int k = 1; k <= 200 && want < 0; k++) {
                    int h = hour + k - 1;
                    want = (h + phase) % drip == 0 && (h + otherPhase) % other == 0 ? k : -1;
                }
                String text = "grotto " + drip + " " + phase + " 0;grotto " + other + " " + otherPhase + " 0;";
                Check.same("together(3) of " + text, want, Edges.townInHour(hour, text).together(3));
            }
        }
    }
}
