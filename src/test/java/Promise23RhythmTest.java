/** Promise 23, rhythm: the least number that is some times DRIP of each. */
public final class Promise23RhythmTest {
    public static void main(String[] args) {
        Check.runAll(Promise23RhythmTest.class);
    }

    private static final String TOWN = "grotto 11 1 0;grotto 12 0 0;grotto 7 3 0;grotto 5 0 0;grotto 9 0 0;hollow 8 0 0;"
        + "grotto 10 0 0;grotto 1 0 0;";

    static void promise23NoneOfThem() {
        Check.same("rhythm(0)", 1, Texts.town(TOWN).rhythm(0));
        Check.same("rhythm(0) of no grottoes", 1, Texts.town("").rhythm(0));
    }

    static void promise23OneOfThem() {
        GrottoHours x = Texts.town(TOWN);
        int[] drips = {11, 12, 7, 5, 9, 8, 10, 1};
        for (int i = 0; i < 8; i++) {
            Check.same("rhythm of " + i, drips[i], x.rhythm(1 << i));
        }
    }

    static void promise23AllOfThem() {
        GrottoHours x = Texts.town(TOWN);
        Check.same("rhythm(255)", 27720, x.rhythm(255));
        Check.same("12 and 8", 24, x.rhythm(2 + 32));
        Check.same("12 and 9", 36, x.rhythm(2 + 16));
        Check.same("12 and 10", 60, x.rhythm(2 + 64));
        Check.same("5 and 10", 10, x.rhythm(8 + 64));
        Check.same("11 and 1", 11, x.rhythm(1 + 128));
        Check.same("like ones", 12, Texts.town("grotto 12 0 0;".repeat(8)).rhythm(255));
    }

    static void promise23EachPair() {
        for (int drip = 1; drip <= 12; drip++) {
            for (int other = 1; other <= 12; other++) {
                int want = drip;
                while (want % other != 0) {
                    want += drip;
                }
                Check.same(drip + " and " + other, want,
                    Texts.town("grotto " + drip + " 0 0;grotto " + other + " 1 0;").rhythm(3));
            }
        }
    }

    static void promise23WereItWetAndNoneDrained() {
        GrottoHours x = Texts.town("wet 0;grotto 3 1 0;grotto 4 1 0;");
        x.drain(0, true);
        x.hours(5);
        Check.same("rhythm(3)", 12, x.rhythm(3));
    }

    static void promise23NeverTogetherButRoundAllTheSame() {
        Check.same("even and odd", 2, Texts.town("grotto 2 0 0;grotto 2 1 0;").rhythm(3));
    }

    static void promise23NotBitsOfGrottoes() {
        GrottoHours x = Texts.town("grotto 3 1 0;grotto 4 1 0;");
        Check.same("the highest bits", 12, x.rhythm(3));
        for (int wrong : Edges.outside(0, 3)) {
            Facts.illegalArgument(x, "rhythm(" + wrong + ")", () -> x.rhythm(wrong));
        }
        GrottoHours all = Texts.town(TOWN);
        Check.illegalArgument("rhythm(256)", () -> all.rhythm(256));
        Check.illegalArgument("rhythm(511)", () -> all.rhythm(511));
        Check.illegalArgument("rhythm(1) of none", () -> Texts.town("").rhythm(1));
        Check.illegalArgument("rhythm(-1) of none", () -> Texts.town("").rhythm(-1));
    }
}
