/** Promises 20 to 25 and 31 to 33: what is reckoned apart, from as it is now. */
public final class ApartTest {
    public static void main(String[] args) {
        weighing();
        staying();
        emptying();
        fewest();
        ridding();
        treaties();
        odds();
        shares();
        most();
        mostBesides();
        Check.finish();
    }

    private static void weighing() {
        GrudgeTown x = Check.town("sk0;p;pt9;p;go0a1w9;go1a0w9");
        Check.due("P20 temper and 2", x.weighs(0, 1), 11);
        Check.due("P20 temper and 2", x.weighs(1, 0), 6);
        x.days(1);
        Check.due("P20 whether he could or not", x.weighs(0, 2), 6);
        Check.due("P20 alike", x.weighs(1, 1), -1);
        Check.due("P20 no such one", x.weighs(3, 1), -1);
        Check.due("P20 no such one", x.weighs(1, -1), -1);
        Check.due("P20 nothing is otherwise", x.count(6), 2);
    }

    private static void staying() {
        GrudgeTown x = Check.town("sf3;p;p;p;p;go0a1w9;go1a0w10;go0a2w30;go1a2w1k1");
        Check.due("P21 stays(0)", x.stays(0), 3);
        Check.due("P21 stays(1)", x.stays(1), 2);
        // He is kept by the first, who is in town behind three sunsets, through the fourth.
        Check.due("P21 stays(2)", x.stays(2), 4);
        Check.due("P21 stays(3)", x.stays(3), 0);
        Check.due("P21 nothing is otherwise", x.count(5), 0);
        Check.due("P21 nothing is otherwise", x.most(5), 15);
        x.days(1);
        Check.due("P21 from now on", x.stays(0), 2);
        Check.due("P21 not in town", x.stays(3), 0);
        Check.due("P21 no such one", x.stays(4), -1);
        Check.due("P21 no such one", x.stays(-1), -1);
        GrudgeTown y = Check.town("sf0;p;p;g;go1a0");
        Check.due("P21 99 and more", y.stays(0), 99);
        for (int i = 0; i < 16; i++) {
            y.days(60);
        }
        y.days(39);
        Check.due("P21 behind 999", y.stays(0), 99);
    }

    private static void emptying() {
        Check.due("P22 no town", new GrudgeTown().empty(), -1);
        GrudgeTown x = Check.town("p;p;gw30;go1a0w30");
        Check.due("P22 empty()", x.empty(), 30);
        x.days(29);
        Check.due("P22 at the next", x.empty(), 1);
        x.days(1);
        Check.due("P22 now", x.empty(), 0);
        Check.due("P22 one behind the other", Check.town("p;p;gw30").empty(), 2);
        Check.due("P22 not within 99", Check.town("sf9;p;p;gk1;go1a0k1").empty(), -1);
    }

    private static void fewest() {
        GrudgeTown x = Check.town("p;p;p");
        Check.due("P23 one offence", x.fewest(1, 1, 0), 199);
        Check.due("P23 one offence", x.fewest(1, 1, 1), 1);
        // The one offended goes at the first sunset: the grudge of one in the hut does not hold at the second.
        Check.due("P23 two offences", x.fewest(1, 2, 0), 109);
        Check.due("P23 two offences", x.fewest(1, 2, 1), 2);
        Check.due("P23 5 at the fifth", x.fewest(1, 5, 0), 109);
        Check.due("P23 none", x.fewest(1, 7, 0), -1);
        Check.due("P23 none", x.fewest(1, 7, 1), -1);
        Check.due("P23 all", x.fewest(7, 5, 0), 100);
        Check.due("P23 all", x.fewest(7, 5, 1), 3);
        Check.due("P23 nothing is otherwise", x.count(6), 0);
        Check.due("P23 nobody", x.fewest(0, 1, 0), -1);
        Check.due("P23 no such persons", x.fewest(8, 1, 0), -1);
        Check.due("P23 no such persons", x.fewest(-1, 1, 0), -1);
        Check.due("P23 n 0", x.fewest(1, 0, 0), -1);
        Check.due("P23 n 31", x.fewest(1, 31, 0), -1);
        Check.due("P23 n 30", x.fewest(1, 30, 0), -1);
        Check.due("P23 no such what", x.fewest(1, 1, 2), -1);
        Check.due("P23 no such what", x.fewest(1, 1, -1), -1);
        // Nobody need offend where all is kept; coins do not matter.
        GrudgeTown y = Check.town("sf0k0;p;p;g;go1a0");
        Check.due("P23 nobody offends", y.fewest(3, 30, 0), 99);
        Check.due("P23 nobody offends", y.fewest(3, 30, 1), 0);
        // From the hut: only who is in town can be offended, but one who came back ahead can.
        GrudgeTown z = Check.town("sf0k0;p;p;p;p;go0a1;go1a0");
        z.days(1);
        Check.due("P23 from the hut", z.fewest(4, 9, 0), 9909);
        Check.due("P23 both from the hut", z.fewest(12, 9, 0), 9900);
        Check.due("P23 all", z.fewest(15, 9, 1), 2);
        GrudgeTown hut = Check.town("sf0k9;p;p;p");
        hut.days(1);
        Check.due("P23 nobody is there to be offended", hut.fewest(1, 1, 0), -1);
        // No place: a row with an offence does not count.
        GrudgeTown full = Check.town("sf0k9;p;p;p;g;g;g;g;g;g;g;g;g;g");
        full.offends(1, 0);
        full.offends(0, 1);
        Check.due("P23 no place", full.fewest(4, 1, 0), -1);
        Check.due("P23 no offence", full.fewest(3, 1, 0), 999);
        full.forgives(0);
        Check.due("P23 one place", full.fewest(4, 1, 0), 990);
        Check.due("P23 one place for two", full.fewest(7, 1, 1), 1);
        // A law's letters are as they are by the offences ahead.
        GrudgeTown law = Check.town("sf1;p;p;p");
        Check.law(law, "y:m*9+1");
        Check.due("P23 by a law", law.fewest(6, 3, 0), -1);
        Check.due("P23 by a law", law.fewest(4, 1, 0), 191);
        Check.law(law, "y:m*9+2");
        Check.due("P23 by a law", law.fewest(4, 1, 0), 990);
        Check.due("P23 by a law", law.fewest(6, 1, 0), 900);
    }

    private static void ridding() {
        GrudgeTown x = Check.town("sf3;p;p;p;go0a1w4;go2a1w3;go2a1w1k1;go1a0w9;go0a2w4k2");
        Check.due("P24 rid(1)", x.rid(1), 5);
        Check.due("P24 rid(0)", x.rid(0), 8);
        Check.due("P24 rid(2)", x.rid(2), 16);
        x.days(1);
        Check.due("P24 none holds then", x.rid(2), 0);
        x.days(1);
        Check.due("P24 not in town", x.rid(2), -1);
        Check.due("P24 of one in the hut", x.rid(1), 0);
        Check.due("P24 no such one", x.rid(3), -1);
        Check.due("P24 no such one", x.rid(-1), -1);
    }

    private static void treaties() {
        GrudgeTown x = Check.town("p;p;p;g;go1a0w2;go1a2;go0a2");
        Check.due("P25 treaty(0, 1)", x.treaty(0, 1), 1);
        Check.due("P25 treaty(1, 0)", x.treaty(1, 0), 1);
        Check.due("P25 treaty(1, 2)", x.treaty(1, 2), 0);
        Check.due("P25 treaty(2, 0)", x.treaty(2, 0), 0);
        Check.due("P25 alike", x.treaty(1, 1), -1);
        Check.due("P25 no such one", x.treaty(1, 3), -1);
        Check.due("P25 no such one", x.treaty(-1, 0), -1);
        x.days(2);
        Check.due("P25 not heavy any more", x.treaty(0, 1), 0);
        GrudgeTown y = Check.town("sf0;p;p;p;go0a1;go1a0");
        y.offends(2, 0);
        y.offends(0, 2);
        y.forgives(2);
        y.days(1);
        Check.due("P25 in the hut", y.person(2, 2), 0);
        y.offends(2, 1);
        y.offends(1, 2);
        y.forgives(2);
        y.days(1);
        Check.due("P25 one in the hut", y.treaty(1, 2), 0);
        Check.due("P33 treaties", y.most(10), 1);
    }

    private static void odds() {
        GrudgeTown x = Check.town("p;p;gw3;go1a0w30");
        Check.due("P31 now", x.odds(1, 0, 30), 1000000000);
        Check.due("P31 one sunset", x.odds(1, 1, 30), 1000000000);
        // 3 fades to 0 by two sunsets unless both fade by 1.
        Check.due("P31 two sunsets", x.odds(1, 2, 30), 490000000);
        Check.due("P31 for sure", x.odds(1, 2, 0), 1000000000);
        Check.due("P31 never", x.odds(1, 2, 100), 0);
        Check.due("P31 three sunsets", x.odds(1, 3, 30), 0);
        Check.due("P31 the other one, kept through the next", x.odds(0, 3, 100), 0);
        Check.due("P31 the other one", x.odds(0, 2, 100), 1000000000);
        Check.due("P31 the other one, 33 of 100", x.odds(0, 3, 33), 448900000);
        Check.due("P31 no such one", x.odds(2, 1, 30), -1);
        Check.due("P31 no such one", x.odds(-1, 1, 30), -1);
        Check.due("P31 n -1", x.odds(0, -1, 30), -1);
        Check.due("P31 n 9", x.odds(0, 9, 30), -1);
        Check.due("P31 chance 101", x.odds(0, 1, 101), -1);
        Check.due("P31 chance -1", x.odds(0, 1, -1), -1);
        Check.due("P31 nothing is otherwise", x.grudge(0, 2), 3);
        x.days(3);
        Check.due("P31 in the hut", x.odds(1, 0, 30), 0);
        Check.due("P31 in the hut", x.odds(1, 8, 0), 0);
        // Cut at each part: he stays only if it fades faster at none of seven sunsets, of 99 parts of 100 by each.
        GrudgeTown y = Check.town("p;p;gw8;go1a0w30");
        long slow = 1000000000L;
        for (int i = 0; i < 7; i++) {
            slow -= slow * 99 / 100;
        }
        Check.due("P31 cut", y.odds(1, 7, 99), slow);
        Check.due("P31 eight at most", y.odds(1, 8, 50), 0);
        Check.due("P31 never said", Check.town("sf9;p;p;gk1;go1a0k1").odds(0, 8, 100), 1000000000);
    }

    private static void shares() {
        GrudgeTown x = Check.town("p;p;p;gw5;go1a0w4;go2a1w3");
        Check.due("P32 shares(0, 100)", x.shares(0, 100), 33);
        Check.due("P32 shares(1, 100)", x.shares(1, 100), 66);
        Check.due("P32 shares(2, 100)", x.shares(2, 100), 0);
        Check.due("P32 shares(1, 0)", x.shares(1, 0), 0);
        Check.due("P32 shares(1, 999)", x.shares(1, 999), 666);
        Check.due("P32 shares(1, 1000)", x.shares(1, 1000), -1);
        Check.due("P32 shares(1, -1)", x.shares(1, -1), -1);
        Check.due("P32 no such one", x.shares(3, 1), -1);
        Check.due("P32 no such one", x.shares(-1, 1), -1);
        x.days(1);
        // Behind a sunset 4, 3 and 2 are left, the last held in the hut.
        Check.due("P32 held by anybody", x.shares(1, 90), 60);
        x.days(4);
        Check.due("P32 none", x.shares(1, 90), 0);
    }

    private static void most() {
        GrudgeTown x = Check.town("sf2;pl5;pl7;pl7;pl1;go1a0w5;go0a1w3;go2a1w2;go1a2w5k1;go1a3w1;go3a2w2");
        int[] want = {2, 3, 1, 1, 0, 15, 63, 52, 18, 6, 2, 8};
        for (int what = 0; what < want.length; what++) {
            Check.due("P33 most(" + what + ")", x.most(what), want[what]);
        }
        Check.due("P33 most(12)", x.most(12), -1);
        Check.due("P33 most(-1)", x.most(-1), -1);
        x.days(1);
        int[] then = {2, 1, 1, 1, 3, 7, 11, 2, 9, 9, 1, 2};
        for (int what = 0; what < then.length; what++) {
            Check.due("P33 then most(" + what + ")", x.most(what), then[what]);
        }
        GrudgeTown none = new GrudgeTown();
        for (int what = 0; what < 12; what++) {
            Check.due("P33 no town", none.most(what), -1);
        }
    }

    private static void mostBesides() {
        GrudgeTown five = Check.town("p;p;p;p;pl9;go4a3;go3a4w7;go4a0;go4a1");
        int[] all = {4, 2, 4, 4, 1, 31, 15, 0, 25, 8, 1, 4};
        for (int what = 0; what < all.length; what++) {
            Check.due("P33 of five most(" + what + ")", five.most(what), all[what]);
        }
        GrudgeTown x = Check.town("p;p;p");
        int[] want = {0, 0, 0, 0, -1, 7, 0, 0, 0, 12, 0, 7};
        for (int what = 0; what < want.length; what++) {
            Check.due("P33 without grudges most(" + what + ")", x.most(what), want[what]);
        }
        x.days(1);
        Check.due("P33 nobody hated", x.most(0), -1);
        Check.due("P33 nobody loved", x.most(1), -1);
        Check.due("P33 the lowest sour", x.most(2), 0);
        Check.due("P33 the lowest liked", x.most(3), 0);
        Check.due("P33 nobody leaves", x.most(11), 0);
        // Held by one in the hut: heavy, of a treaty, sour, but it does not hold and is no burden.
        GrudgeTown y = Check.town("sf0;p;p;p;go2a0w9;go2a1w8;go0a1w1;go1a0w2");
        y.days(1);
        int[] then = {0, 1, 2, 0, 0, 3, 12, 0, 20, 8, 1, 0};
        for (int what = 0; what < then.length; what++) {
            Check.due("P33 of the hut most(" + what + ")", y.most(what), then[what]);
        }
    }
}
