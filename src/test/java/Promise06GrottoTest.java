/** Promise 6, grotto: what there is of a GROTTO, and NEXT of it. */
public final class Promise06GrottoTest {
    public static void main(String[] args) {
        Check.runAll(Promise06GrottoTest.class);
    }

    static void promise06NoSuchGrotto() {
        GrottoHours x = Texts.town("grotto 1 0 0;grotto 2 1 3;");
        for (int wrong : Edges.outside(0, 1)) {
            for (int what : new int[] {0, 6, 7, -1}) {
                Check.noSuchElement("grotto(" + wrong + ", " + what + ")", () -> x.grotto(wrong, what));
            }
        }
        GrottoHours all = Texts.town(Edges.EIGHT_GROTTOES);
        Check.same("the last of eight", 1, all.grotto(7, 0));
        Check.noSuchElement("the ninth", () -> all.grotto(8, 0));
        Facts.noSuchElement(x, "grotto(2, 0)", () -> x.grotto(2, 0));
    }

    static void promise06AnotherWhat() {
        GrottoHours x = Texts.town("grotto 1 0 0;grotto 2 1 3;");
        for (int wrong : Edges.outside(0, 6)) {
            Check.noSuchElement("grotto(1, " + wrong + ")", () -> x.grotto(1, wrong));
        }
        Facts.noSuchElement(x, "grotto(0, 7)", () -> x.grotto(0, 7));
    }

    static void promise06LeastAndMostOfEach() {
        GrottoHours x = Texts.town("grotto 1 0 0;hollow 12 11 20;");
        int[][] want = {{1, 0, 0, 0, 0, -1, 1}, {12, 11, 20, 1, 0, -1, 2}};
        for (int grotto = 0; grotto < 2; grotto++) {
            for (int what = 0; what < 7; what++) {
                Check.same("grotto(" + grotto + ", " + what + ")", want[grotto][what], x.grotto(grotto, what));
            }
        }
    }

    static void promise06WhetherDrained() {
        GrottoHours x = Texts.town(Edges.EIGHT_GROTTOES);
        x.drain(0, true);
        x.drain(7, true);
        for (int grotto = 0; grotto < 8; grotto++) {
            Check.same("drained " + grotto, grotto == 0 || grotto == 7 ? 1 : 0, x.grotto(grotto, 4));
        }
        x.drain(7, false);
        Check.same("flows again", 0, x.grotto(7, 4));
    }

    static void promise06WhoHasHiredIt() {
        GrottoHours x = Texts.town(Edges.EIGHT_GROTTOES + "guild 0 0 0 hires 7;" + "guild 0 0 0;".repeat(4)
            + "guild 0 0 0 hires 0;");
        Check.same("the last guild", 5, x.grotto(0, 5));
        Check.same("the first guild", 0, x.grotto(7, 5));
        Check.same("nobody", -1, x.grotto(1, 5));
        x.dismiss(5);
        Check.same("nobody any more", -1, x.grotto(0, 5));
        x.hire(0, 1);
        Check.same("in place of another one", -1, x.grotto(7, 5));
        Check.same("now", 0, x.grotto(1, 5));
    }

    static void promise06WhoCantPayHasItNoMore() {
        GrottoHours x = Texts.town("grotto 1 0 1;guild 0 0 0 hires 0;");
        Check.same("ahead", 0, x.grotto(0, 5));
        x.hours(1);
        Check.same("dismissed", -1, x.grotto(0, 5));
    }

    static void promise06NextIsNow() {
        Check.same("each hour", 1, Texts.town("grotto 1 0 0;").grotto(0, 6));
        Check.same("hour 0", 1, Texts.town("grotto 12 0 0;").grotto(0, 6));
        Check.same("hour 1", 2, Texts.town("grotto 12 11 0;").grotto(0, 6));
        Check.same("hour 11", 12, Texts.town("grotto 12 1 0;").grotto(0, 6));
        Check.same("a phase above the drip", 3, Texts.town("grotto 3 10 0;").grotto(0, 6));
        Check.same("a phase like the drip", 1, Texts.town("grotto 5 5 0;").grotto(0, 6));
    }

    static void promise06NextBehindEachHour() {
        GrottoHours x = Texts.town("grotto 3 1 0;");
        int[] want = {3, 2, 1, 3, 2, 1, 3};
        for (int i = 0; i < want.length; i++) {
            Check.same("from hour " + i, want[i], x.grotto(0, 6));
            x.hours(1);
        }
    }

    static void promise06NextIsInThe60thHourButNotInThe61st() {
        // Hours 3, 10, 17 .. are wet, and 4, 15, 26 .. come round: 59 is the first that does both, 136 the next.
        GrottoHours x = Texts.town("wet 0 0 0 1 0 0 0;grotto 11 7 0;");
        Check.same("from hour 0", 60, x.grotto(0, 6));
        x.hours(1);
        Check.same("from hour 1", 59, x.grotto(0, 6));
        GrottoHours y = Edges.townInHour(76, "wet 0 0 0 1 0 0 0;grotto 11 7 0;");
        Check.same("from hour 76, the 61st", -1, y.grotto(0, 6));
        y.hours(1);
        Check.same("from hour 77, the 60th", 60, y.grotto(0, 6));
    }

    static void promise06NextOfADrainedOne() {
        GrottoHours x = Texts.town("grotto 1 0 0;grotto 2 0 0;");
        x.drain(0, true);
        Check.same("drained", -1, x.grotto(0, 6));
        Check.same("the other one", 1, x.grotto(1, 6));
        x.drain(0, false);
        Check.same("flows again", 1, x.grotto(0, 6));
    }

    static void promise06NextInDryHours() {
        Check.same("always dry", -1, Texts.town("wet 0;grotto 1 0 0;").grotto(0, 6));
        Check.same("dry but for one of eight", 8, Texts.town("wet 0 0 0 0 0 0 0 1;grotto 1 0 0;").grotto(0, 6));
        Check.same("its hours are dry", -1, Texts.town("wet 0 1;grotto 2 0 0;").grotto(0, 6));
        Check.same("its hours are wet", 2, Texts.town("wet 0 1;grotto 2 1 0;").grotto(0, 6));
    }

    static void promise06NextFromHour999() {
        // 999 and 9 are 1008, some times 12: it drips at once, and again twelve hours on.
        Check.same("at once", 1, Edges.townInHour(999, "grotto 12 9 0;").grotto(0, 6));
        Check.same("in the second", 2, Edges.townInHour(999, "grotto 12 8 0;").grotto(0, 6));
        Check.same("in the twelfth", 12, Edges.townInHour(999, "grotto 12 10 0;").grotto(0, 6));
    }
}
