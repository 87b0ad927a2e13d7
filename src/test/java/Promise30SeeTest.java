/** Promise 30, see: at most 8, SIN of 0 to 99 behind 0 to 20 HOURS. */
public final class Promise30SeeTest {
    public static void main(String[] args) {
        Check.runAll(Promise30SeeTest.class);
    }

    private static final String TOWN = "guild 1 10 0;guild 1 10 0;";

    static void promise30EightAreTakenNineAreNot() {
        GrottoHours x = Texts.town(TOWN);
        for (int i = 1; i <= 8; i++) {
            Check.same("see", i, x.see(i % 2, i, 10 + i));
        }
        Facts.refused(x, 2, "the ninth", -1, () -> x.see(0, 0, 10));
        Facts.refused(x, 2, "the tenth", -1, () -> x.see(1, 20, 99));
        Check.same("it is so without still", 1, x.greedy(2));
        x.forget();
        Check.same("anew", 1, x.see(0, 0, 10));
    }

    static void promise30ZeroToTwentyHoursAreTaken() {
        for (int hours : new int[] {0, 1, 19, 20}) {
            Check.same("see(0, " + hours + ", 50)", 1, Texts.town(TOWN).see(0, hours, 50));
        }
        for (int wrong : Edges.outside(0, 20)) {
            GrottoHours x = Texts.town(TOWN);
            x.see(0, 20, 30);
            Facts.refused(x, 2, "see(1, " + wrong + ", 50)", -1, () -> x.see(1, wrong, 50));
            Check.same("what was seen is so", 1, x.greedy(2));
        }
    }

    static void promise30ZeroTo99OfSinAreTaken() {
        for (int sin : new int[] {0, 1, 98, 99}) {
            Check.same("see(0, 1, " + sin + ")", 1, Texts.town(TOWN).see(0, 1, sin));
        }
        for (int wrong : Edges.outside(0, 99)) {
            GrottoHours x = Texts.town(TOWN);
            x.see(0, 20, 30);
            Facts.refused(x, 2, "see(1, 1, " + wrong + ")", -1, () -> x.see(1, 1, wrong));
            Check.same("what was seen is so", 1, x.greedy(2));
        }
    }

    static void promise30NoSuchGuildComesAhead() {
        GrottoHours x = Texts.town(TOWN);
        for (int wrong : Edges.outside(0, 1)) {
            Check.noSuchElement("see(" + wrong + ", 1, 1)", () -> x.see(wrong, 1, 1));
            Check.noSuchElement("see(" + wrong + ", 21, 1)", () -> x.see(wrong, 21, 1));
            Check.noSuchElement("see(" + wrong + ", 1, 100)", () -> x.see(wrong, 1, 100));
        }
        Facts.noSuchElement(x, "see(2, 1, 1)", () -> x.see(2, 1, 1));
        Facts.noSuchElement(x, "see(-1, 99, 999)", () -> x.see(-1, 99, 999));
        for (int i = 1; i <= 8; i++) {
            x.see(0, 0, 10);
        }
        Facts.noSuchElement(x, "see(2, 1, 1), full", () -> x.see(2, 1, 1));
        GrottoHours six = Texts.town("guild 1 10 0;".repeat(6));
        Check.same("the last of six", 1, six.see(5, 1, 11));
        Check.noSuchElement("the seventh", () -> six.see(6, 1, 11));
    }

    static void promise30TheSameTwiceAndWhatCantBe() {
        GrottoHours x = Texts.town(TOWN);
        Check.same("once", 1, x.see(0, 1, 11));
        Check.same("twice", 2, x.see(0, 1, 11));
        Check.same("it is so", 1, x.greedy(2));
        Check.same("what isn't so is seen too", 3, x.see(0, 1, 12));
        Check.same("it isn't so", 0, x.greedy(2));
    }

    static void promise30NoAct() {
        GrottoHours x = Texts.town(TOWN);
        x.give(0, 1);
        x.see(0, 1, 11);
        x.see(0, 1, 100);
        Check.same("acts", 1, x.count(9));
        Check.same("no refused act", 0, x.count(13));
        x.undo();
        Check.same("seen", 1, x.count(10));
    }
}
