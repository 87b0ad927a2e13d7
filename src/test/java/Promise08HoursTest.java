/** Promise 8, hours: how many may go by, and what each of them does at its edges. */
public final class Promise08HoursTest {
    public static void main(String[] args) {
        Check.runAll(Promise08HoursTest.class);
    }

    /** SIN, PURSE, SILENCES and the GROTTO of a GUILD. */
    private static void guild(GrottoHours x, String when, int guild, int... want) {
        for (int i = 0; i < want.length; i++) {
            int what = i + 1;
            Check.same(when + ": guild(" + guild + ", " + what + ")", want[i], () -> x.guild(guild, what));
        }
    }

    /** The same of GUILD 0 behind one HOUR. */
    private static void oneHour(String text, int... want) {
        GrottoHours x = Texts.town(text);
        Check.same("hours(1) of " + text, 1, x.hours(1));
        guild(x, text, 0, want);
    }

    static void promise08OneToTwentyAreTaken() {
        for (int many = 1; many <= 20; many++) {
            GrottoHours x = Texts.town("guild 1 10 0;");
            Check.same("hours(" + many + ")", many, x.hours(many));
            guild(x, many + " hours", 0, 10 + many, 3 * many, 0, -1);
            Check.same("one act", 1, x.count(9));
        }
    }

    static void promise08OtherNumbersAreRefused() {
        for (int wrong : Edges.outside(1, 20)) {
            GrottoHours x = Texts.town("grotto 1 0 3;guild 1 10 50 hires 0;");
            x.hours(4);
            Facts.refused(x, 1, "hours(" + wrong + ")", -1, () -> x.hours(wrong));
            Check.same("no act was kept: undo()", 0, x.undo());
            Check.same("the hour", 0, x.count(2));
        }
    }

    static void promise08Hour999IsReached() {
        GrottoHours x = Edges.townInHour(979, "guild 0 0 0;");
        Check.same("hours(20)", 999, x.hours(20));
        GrottoHours y = Edges.townInHour(998, "guild 0 0 0;");
        Check.same("hours(1)", 999, y.hours(1));
    }

    static void promise08Hour1000IsNot() {
        GrottoHours x = Edges.townInHour(980, "guild 1 0 0;");
        Facts.refused(x, 1, "hours(20)", -1, () -> x.hours(20));
        Check.same("hours(19)", 999, x.hours(19));
        Facts.refused(x, 1, "hours(1)", -1, () -> x.hours(1));
        Facts.refused(x, 1, "hours(most)", -1, () -> x.hours(Integer.MAX_VALUE));
        Check.same("undo()", 39, x.undo());
        Check.same("hours(19) again", 999, x.hours(19));
    }

    static void promise08PurseGrowsTo999AtMost() {
        oneHour("guild 9 0 971;", 9, 998);
        oneHour("guild 9 0 972;", 9, 999);
        oneHour("guild 9 0 973;", 9, 999);
        oneHour("guild 9 0 999;", 9, 999);
        oneHour("guild 0 0 999;", 0, 999);
        oneHour("guild 1 0 0;", 1, 3);
    }

    static void promise08SinGrowsTo99AtMost() {
        oneHour("guild 9 89 0;bound 99;", 98, 27);
        oneHour("guild 9 90 0;bound 99;", 99, 27);
        oneHour("guild 9 91 0;bound 99;", 99, 27);
        oneHour("guild 9 99 0;bound 99;", 99, 27);
        oneHour("guild 0 99 0;bound 99;", 99, 0);
    }

    static void promise08APrayerTakesFiveWithoutARule() {
        oneHour("grotto 1 0 0;guild 0 6 0 hires 0;", 1);
        oneHour("grotto 1 0 0;guild 0 5 0 hires 0;", 0);
        oneHour("grotto 1 0 0;guild 0 4 0 hires 0;", 0);
        oneHour("grotto 1 0 0;guild 0 0 0 hires 0;", 0);
    }

    static void promise08APrayerIsKeptFrom0ToSin() {
        oneHour("grotto 1 0 0;guild 0 40 0 hires 0;prays 39;", 1);
        oneHour("grotto 1 0 0;guild 0 40 0 hires 0;prays 40;", 0);
        oneHour("grotto 1 0 0;guild 0 40 0 hires 0;prays 41;", 0);
        oneHour("grotto 1 0 0;guild 0 40 0 hires 0;prays 8192*8192*32-1;", 0);
        oneHour("grotto 1 0 0;guild 0 40 0 hires 0;prays 1;", 39);
        oneHour("grotto 1 0 0;guild 0 40 0 hires 0;prays 0;", 40);
        oneHour("grotto 1 0 0;guild 0 40 0 hires 0;prays 0-1;", 40);
        oneHour("grotto 1 0 0;guild 0 40 0 hires 0;prays 8192*8192*32;", 40);
    }

    static void promise08AHollowOnePraysTwice() {
        oneHour("hollow 1 0 0;guild 0 11 0 hires 0;", 1);
        oneHour("hollow 1 0 0;guild 0 10 0 hires 0;", 0);
        oneHour("hollow 1 0 0;guild 0 9 0 hires 0;", 0);
        oneHour("hollow 1 0 0;guild 0 4 0 hires 0;", 0);
        // The second one by what is so then: half of 80, half of 40.
        oneHour("hollow 1 0 0;guild 0 80 0 hires 0;bound 99;prays sin/2;", 20);
        // 50 at first; 30 isn't above 40, so that nothing more goes.
        oneHour("hollow 1 0 0;guild 0 80 0 hires 0;bound 99;prays (40<sin)*50;", 30);
        // Nothing at first stays nothing.
        oneHour("hollow 1 0 0;guild 0 30 0 hires 0;bound 99;prays (40<sin)*50;", 30);
        // It is paid once.
        oneHour("hollow 1 0 8;guild 0 30 20 hires 0;", 20, 12);
    }

    static void promise08WhatDripsInWhichHour() {
        // Behind hours 0, 1, 2 .. sin is 5 less wherever h and PHASE together are some times DRIP.
        int[][] dripAndPhase = {{1, 0}, {1, 11}, {2, 0}, {2, 1}, {3, 2}, {3, 11}, {12, 0}, {12, 11}, {12, 1}, {5, 5}};
        for (int[] two : dripAndPhase) {
            GrottoHours x = Texts.town("grotto " + two[0] + " " + two[1] + " 0;guild 0 99 0 hires 0;bound 99;prays 1;");
            int sin = 99;
            for (int hour = 0; hour < 26; hour++) {
                x.hours(1);
                sin -= (hour + two[1]) % two[0] == 0 ? 1 : 0;
                Check.same("drip " + two[0] + ", phase " + two[1] + ", hour " + hour, sin, x.guild(0, 1));
            }
        }
    }

    static void promise08ADryHourHasNoPrayer() {
        GrottoHours x = Texts.town("wet 1 0 9;grotto 1 0 2;guild 0 50 100 hires 0;");
        int[] sins = {45, 45, 40, 35, 35, 30};
        for (int i = 0; i < sins.length; i++) {
            x.hours(1);
            guild(x, "behind hour " + i, 0, sins[i], 98 - 2 * i, 0, 0);
        }
    }

    static void promise08ADrainedOneHasNoPrayerButIsPaid() {
        GrottoHours x = Texts.town("grotto 1 0 3;guild 0 50 10 hires 0;");
        x.drain(0, true);
        x.hours(1);
        guild(x, "drained", 0, 50, 7, 0, 0);
        x.drain(0, false);
        x.hours(1);
        guild(x, "flows again", 0, 45, 4, 0, 0);
    }

    static void promise08WhatNobodyHasHiredPraysForNobody() {
        GrottoHours x = Texts.town("grotto 1 0 0;hollow 1 0 0;guild 1 50 0;guild 1 50 0 hires 1;");
        x.hours(1);
        guild(x, "without", 0, 51, 3, 0, -1);
        guild(x, "with a hollow one", 1, 41, 3, 0, 1);
    }

    static void promise08ThePurseIsJustEnoughOrNot() {
        oneHour("grotto 1 0 10;guild 0 0 11 hires 0;prays 0;", 0, 1, 0, 0);
        oneHour("grotto 1 0 10;guild 0 0 10 hires 0;prays 0;", 0, 0, 0, 0);
        oneHour("grotto 1 0 10;guild 0 0 9 hires 0;prays 0;", 0, 9, 0, -1);
        // What it gains in the HOUR counts: 7 and 3 are 10.
        oneHour("grotto 1 0 10;guild 1 0 7 hires 0;", 1, 0, 0, 0);
        oneHour("grotto 1 0 10;guild 1 0 6 hires 0;", 1, 9, 0, -1);
        oneHour("grotto 1 0 0;guild 0 0 0 hires 0;", 0, 0, 0, 0);
        oneHour("grotto 1 0 20;guild 0 0 20 hires 0;", 0, 0, 0, 0);
        oneHour("grotto 1 0 20;guild 0 0 19 hires 0;", 0, 19, 0, -1);
    }

    static void promise08WhatItPaysIsKeptFrom0To50() {
        oneHour("grotto 1 0 0;guild 0 0 51 hires 0;costs 51;", 0, 1, 0, 0);
        oneHour("grotto 1 0 0;guild 0 0 50 hires 0;costs 51;", 0, 0, 0, 0);
        oneHour("grotto 1 0 0;guild 0 0 49 hires 0;costs 51;", 0, 49, 0, -1);
        oneHour("grotto 1 0 0;guild 0 0 50 hires 0;costs 9999*9999;", 0, 0, 0, 0);
        oneHour("grotto 1 0 9;guild 0 0 50 hires 0;costs 0-1;", 0, 50, 0, 0);
        oneHour("grotto 1 0 9;guild 0 0 0 hires 0;costs 0-9999;", 0, 0, 0, 0);
    }

    static void promise08WhoDismissesHasPrayedAndPaysNothing() {
        // The prayer came ahead of it.
        oneHour("grotto 1 0 20;guild 2 50 3 hires 0;", 47, 9, 0, -1);
        GrottoHours x = Texts.town("grotto 1 0 20;guild 2 50 3 hires 0;");
        x.hours(3);
        guild(x, "no prayer behind it", 0, 51, 21, 0, -1);
        Check.same("it is free", -1, x.grotto(0, 5));
    }

    static void promise08SilenceAboveTheBoundAlone() {
        oneHour("guild 0 70 9;", 70, 9, 0, -1);
        oneHour("guild 0 71 9;", 71, 4, 1, -1);
        oneHour("guild 1 69 6;", 70, 9, 0, -1);
        oneHour("guild 1 70 6;", 71, 4, 1, -1);
        oneHour("guild 0 1 9;bound 1;", 1, 9, 0, -1);
        oneHour("guild 0 2 9;bound 1;", 2, 4, 1, -1);
        oneHour("guild 0 98 9;bound 98;", 98, 9, 0, -1);
        oneHour("guild 0 99 9;bound 98;", 99, 4, 1, -1);
        oneHour("guild 9 99 9;bound 99;", 99, 36, 0, -1);
        // What is prayed away and what is added in the HOUR count both.
        oneHour("grotto 1 0 0;guild 5 70 0 hires 0;", 70, 15, 0, 0);
        oneHour("grotto 1 0 0;guild 6 70 0 hires 0;", 71, 9, 1, 0);
    }

    static void promise08ASilenceHalvesThePurse() {
        oneHour("guild 0 71 0;", 71, 0, 1, -1);
        oneHour("guild 0 71 1;", 71, 0, 1, -1);
        oneHour("guild 0 71 2;", 71, 1, 1, -1);
        oneHour("guild 0 71 999;", 71, 499, 1, -1);
        // Behind the growth and the payment: 10 and 3, less 4, half of 9.
        oneHour("grotto 1 0 4;guild 1 80 10 hires 0;", 76, 4, 1, 0);
        // And behind the dismissal: half of 9.
        oneHour("grotto 1 0 20;guild 1 80 6 hires 0;", 76, 4, 1, -1);
        // It is paid ahead of the silence: just enough.
        oneHour("grotto 1 0 20;guild 0 80 20 hires 0;", 75, 0, 1, 0);
    }

    static void promise08SilencesAre999AtMost() {
        GrottoHours x = Edges.townInHour(999, "guild 0 99 999;guild 0 99 999;");
        guild(x, "in each hour", 0, 99, 0, 999, -1);
        guild(x, "in each hour", 1, 99, 0, 999, -1);
        Check.same("one hour more", 999, x.then(0, 1, 2));
    }

    static void promise08PraysSeesWhatIsAheadOfTheGrowth() {
        oneHour("grotto 1 0 0;guild 9 90 10 hires 0;bound 99;prays purse;", 89, 37);
        oneHour("grotto 1 0 0;guild 9 80 10 hires 0;bound 99;prays (sin=80)*7;", 82, 37);
        oneHour("wet 6;grotto 1 0 3;guild 0 90 10 hires 0;bound 99;prays wet*10+hour+drip+price;", 26, 7);
    }

    static void promise08CostsSeesWhatIsBehindTheGrowth() {
        oneHour("grotto 1 0 0;guild 2 60 10 hires 0;costs (purse=16)*3+(sin=57)*4;", 57, 9);
        oneHour("wet 6;grotto 2 0 3;guild 4 60 10 hires 0;costs wet+hour+drip+price+greed;", 59, 7);
        // COSTS comes ahead of the silence.
        oneHour("grotto 1 1 0;guild 1 71 7 hires 0;prays 0;costs (purse=10)*4;", 72, 3, 1, 0);
    }

    static void promise08EachHourHasItsOwnWetAndHour() {
        GrottoHours x = Texts.town("wet 1 2 3;grotto 1 0 0;guild 0 99 999 hires 0;bound 99;prays wet;costs hour;");
        Check.same("hours(7)", 7, x.hours(7));
        // 1 2 3 1 2 3 1 are 13; 0 to 6 are 21.
        guild(x, "behind seven", 0, 86, 978, 0, 0);
        Check.same("hours(2)", 9, x.hours(2));
        guild(x, "behind nine", 0, 81, 963, 0, 0);
    }

    static void promise08AGuildTouchesNoOther() {
        GrottoHours x = Texts.town("grotto 1 0 20;grotto 1 0 1;guild 0 50 5 hires 0;guild 0 50 5 hires 1;guild 9 69 100;");
        x.hours(1);
        guild(x, "too dear", 0, 45, 5, 0, -1);
        guild(x, "paid", 1, 45, 4, 0, 1);
        guild(x, "silent", 2, 78, 63, 1, -1);
        Check.same("hired", 2, x.count(5));
    }

    static void promise08TwentyHoursAreTwentyTimesOne() {
        String text = "wet 1 0 3;grotto 2 1 3;hollow 3 0 5;guild 4 30 20 hires 0;guild 9 69 500 hires 1;prays sin/4+wet;";
        GrottoHours x = Texts.town(text);
        GrottoHours y = Texts.town(text);
        x.hours(20);
        for (int i = 0; i < 20; i++) {
            y.hours(1);
        }
        for (int guild = 0; guild < 2; guild++) {
            for (int what = 0; what < 6; what++) {
                Check.same("guild(" + guild + ", " + what + ")", y.guild(guild, what), x.guild(guild, what));
            }
        }
        Check.same("one act", 1, x.count(9));
        Check.same("twenty acts", 20, y.count(9));
    }
}
