/** Promises 10 to 18, 34 and 35: sunsets, acts by hand, years, what is refused, undoing, images. */
public final class ActsTest {
    public static void main(String[] args) {
        sunsets();
        wills();
        days();
        offences();
        places();
        forgiving();
        kinds();
        gifts();
        mercies();
        years();
        yearsByHand();
        undoing();
        images();
        firstOfSeveral();
        Check.finish();
    }

    private static void sunsets() {
        // One never said does not fade, a willed one does; those who hold nothing that is left lose whom they kept.
        GrudgeTown x = Check.town("sf4;p;p;go0a1w9k1;go1a0w9k2;go0a1w4");
        Check.due("P10 days(1)", x.days(1), 1);
        Check.due("P10 never said", x.grudge(0, 2), 9);
        Check.due("P10 willed", x.grudge(1, 2), 5);
        Check.due("P10 faded", x.grudge(2, 2), -1);
        Check.due("P10 both in town", x.most(5), 3);
        x.days(2);
        Check.due("P10 not below 0", x.grudge(1, 2), -1);
        Check.due("P10 the first went", x.most(5), 2);
        x.days(1);
        Check.due("P10 of one in the hut it does not hold", x.most(5), 0);
        Check.due("P10 it is heavy still", x.grudge(0, 2), 9);
        // All who have none against them go at once: a grudge of one who goes just then still keeps another one.
        GrudgeTown y = Check.town("p;p;go0a1w9");
        y.days(1);
        Check.due("P10 the second is kept by one who went", y.most(5), 2);
        y.days(1);
        Check.due("P10 then he goes, too", y.most(5), 0);
    }

    private static void wills() {
        // The first goes; his willed grudge against the second is the third one's then, one never willed stays his.
        GrudgeTown x = Check.town("p;p;p;p;go0a1w9k2;go0a2w9;go0a3w9k2");
        x.days(1);
        Check.due("P10 who is left", x.most(5), 14);
        Check.due("P10 the lowest not against himself", x.grudge(0, 0), 2);
        Check.due("P10 not willed", x.grudge(1, 0), 0);
        Check.due("P10 the lowest", x.grudge(2, 0), 1);
        Check.due("P10 it stays willed", x.grudge(0, 3), 2);
        // Nobody is left but the one it is against: it is nothing heavy any more.
        GrudgeTown y = Check.town("p;p;go0a1w9k2");
        y.days(1);
        Check.due("P10 no heir", y.grudge(0, 2), -1);
        Check.due("P10 log of it", y.log(0, 1), 0);
        // Two go at once, each wills; what one in town has put into his will stays his.
        GrudgeTown w = Check.town("p;p;p;p;go0a1w9k2;go3a2w9k2;go1a2w9k2;go2a1w9");
        w.days(1);
        Check.due("P10 two are left", w.most(5), 6);
        int[] holders = {2, 1, 1, 2};
        for (int i = 0; i < 4; i++) {
            Check.due("P10 who holds " + i, w.grudge(i, 0), holders[i]);
        }
        // One who went ahead of it wills nothing any more.
        GrudgeTown z = Check.town("sf0;p;p;p;go1a2w9;go2a1w9;go0a1w9");
        z.days(1);
        Check.due("P13 the will of one in the hut", z.becomes(2, 2), 0);
        z.days(1);
        Check.due("P10 is not carried out", z.grudge(2, 0), 0);
    }

    private static void days() {
        GrudgeTown x = Check.town("p;p");
        Check.due("P10 days(0)", x.days(0), -1);
        Check.due("P10 days(61)", x.days(61), -1);
        Check.due("P10 days(-1)", x.days(-1), -1);
        Check.due("P17 out of bounds", x.status(1), 3);
        for (int i = 1; i <= 16; i++) {
            Check.due("P10 days(60)", x.days(60), 60 * i);
        }
        Check.due("P10 days(40) beyond", x.days(40), -1);
        Check.due("P17 beyond", x.status(4), 1);
        Check.due("P10 nothing went by", x.count(5), 960);
        Check.due("P10 days(39)", x.days(39), 999);
        Check.due("P10 coins", x.rule(1), 999);
        Check.due("P10 days(1) beyond", x.days(1), -1);
        Check.due("P16 years(1, 1) beyond", x.years(1, 1), -1);
        Check.due("P17 beyond", x.status(4), 2);
        Check.due("P10 out of bounds first", x.days(0), -1);
        Check.due("P17 out of bounds first", x.status(1), 4);
        Check.due("P21 reckoned behind 999", x.stays(0), 0);
        Check.due("P14 above 999", x.give(1), -1);
        Check.due("P17 out of bounds", x.status(1), 5);
        x.undo();
        Check.due("P18 a day less", x.count(5), 998);
        Check.due("P10 days(1)", x.days(1), 999);
    }

    private static void offences() {
        GrudgeTown x = Check.town("sk4;pt7;pt0;p;g;go1a0w1");
        Check.due("P11 offends(0, 1)", x.offends(0, 1), 2);
        int[] want = {1, 0, 2, 0};
        for (int what = 0; what < 4; what++) {
            Check.due("P11 grudge(2, " + what + ")", x.grudge(2, what), want[what]);
        }
        Check.due("P11 a coin", x.rule(1), 3);
        Check.due("P11 offends(1, 0)", x.offends(1, 0), 3);
        Check.due("P11 temper and 2", x.grudge(3, 2), 9);
        Check.due("P11 alike", x.offends(1, 1), -1);
        Check.due("P11 no such one", x.offends(-1, 0), -1);
        Check.due("P11 no such one", x.offends(0, 3), -1);
        Check.due("P11 no such one, alike", x.offends(3, 3), -1);
        Check.due("P17 alike", x.status(1), 1);
        Check.due("P17 no such ones", x.status(0), 3);
        x.days(1);
        Check.due("P11 the third went", x.most(5), 3);
        Check.due("P11 coins", x.rule(1), 3);
        Check.due("P11 the other one is in the hut", x.offends(0, 2), -1);
        Check.due("P17 not in town", x.status(2), 1);
        Check.due("P11 out of the hut, to the lowest place", x.offends(2, 0), 1);
        Check.due("P11 he is in town", x.person(2, 2), 1);
        Check.due("P11 offends(2, 0)", x.offends(2, 0), 4);
        Check.due("P11 offends(2, 0)", x.offends(2, 0), 5);
        Check.due("P11 no coin", x.offends(2, 0), -1);
        Check.due("P17 no coin", x.status(3), 1);
        Check.due("P18 acts", x.count(10), 6);
        // Letters are as ahead of the offence, and a law's worth is held within 1 .. 30.
        GrudgeTown y = Check.town("p;p");
        Check.law(y, "y:n=0?29;y:n*99");
        Check.due("P11 by a law", y.offends(0, 1), 0);
        Check.due("P11 n is 0 ahead", y.grudge(0, 2), 29);
        y.offends(0, 1);
        Check.due("P11 30 at most", y.grudge(1, 2), 30);
        Check.law(y, "y:s*7+1");
        y.offends(1, 0);
        Check.due("P11 s is 1 in town", y.grudge(2, 2), 8);
    }

    private static void places() {
        GrudgeTown x = Check.town("sk99;p;p;g;g;g;g;g;g;g;g;g;g");
        Check.due("P11 the 11th place", x.offends(0, 1), 10);
        Check.due("P11 the 12th place", x.offends(1, 0), 11);
        Check.due("P33 free", x.most(9), 0);
        Check.due("P11 no place", x.offends(0, 1), -1);
        Check.due("P17 no place", x.status(3), 1);
        Check.due("P11 no coin was taken", x.rule(1), 97);
        x.forgives(4);
        Check.due("P11 the place of one forgiven", x.offends(1, 0), 4);
    }

    private static void forgiving() {
        GrudgeTown x = Check.town("p;p;p;go0a1;go2a1;go1a0");
        Check.due("P12 forgives(0)", x.forgives(0), 1);
        Check.due("P12 it is none", x.grudge(0, 0), -1);
        Check.due("P12 forgives(0)", x.forgives(0), -1);
        Check.due("P12 forgives(3)", x.forgives(3), -1);
        Check.due("P12 forgives(12)", x.forgives(12), -1);
        Check.due("P12 forgives(-1)", x.forgives(-1), -1);
        Check.due("P17 none there, no such one", x.status(0), 4);
        x.days(1);
        Check.due("P12 the third went, he can't", x.forgives(1), -1);
        Check.due("P17 not in town", x.status(2), 1);
        Check.due("P12 it is heavy", x.grudge(1, 2), 5);
        // Against whom counts those of one in the hut, too.
        Check.due("P12 forgives(2)", x.forgives(2), 0);
        x.offends(1, 0);
        Check.due("P12 one of the hut is left", x.forgives(0), 1);
    }

    private static void kinds() {
        GrudgeTown two = Check.town("sk2;p;p;gk2");
        Check.due("P13 just enough coins", two.becomes(0, 1), 2);
        Check.due("P13 no coin left", two.rule(1), 0);
        two.give(9);
        two.forgives(0);
        two.offends(0, 1);
        Check.due("P11 plain, whatever was in that place", two.grudge(0, 3), 0);
        GrudgeTown x = Check.town("sk5;p;p;p;g;go1a2k2");
        Check.due("P13 becomes(0, 1)", x.becomes(0, 1), 0);
        Check.due("P13 coins", x.rule(1), 3);
        Check.due("P13 kind", x.grudge(0, 3), 1);
        Check.due("P13 becomes(1, 0)", x.becomes(1, 0), 2);
        Check.due("P13 coins", x.rule(1), 1);
        Check.due("P13 too few coins", x.becomes(1, 1), -1);
        Check.due("P17 too few coins", x.status(3), 1);
        Check.due("P13 it is so", x.becomes(1, 0), -1);
        Check.due("P17 it is so", x.status(2), 1);
        Check.due("P13 no such kind", x.becomes(1, 3), -1);
        Check.due("P13 no such kind", x.becomes(1, -1), -1);
        Check.due("P17 no such kind", x.status(1), 2);
        Check.due("P13 none there", x.becomes(2, 1), -1);
        Check.due("P13 no such one", x.becomes(12, 3), -1);
        Check.due("P13 no such one", x.becomes(-1, 0), -1);
        Check.due("P17 no such one", x.status(0), 3);
    }

    private static void gifts() {
        GrudgeTown x = Check.town("sk99;p;p");
        Check.due("P14 give(1)", x.give(1), 100);
        Check.due("P14 give(50)", x.give(50), 150);
        Check.due("P14 give(51)", x.give(51), -1);
        Check.due("P14 give(0)", x.give(0), -1);
        Check.due("P14 give(-1)", x.give(-1), -1);
        for (int i = 1; i <= 16; i++) {
            x.give(50);
        }
        Check.due("P14 give(50) above", x.give(50), -1);
        Check.due("P14 give(49)", x.give(49), 999);
        Check.due("P17 out of bounds", x.status(1), 4);
        GrudgeTown none = new GrudgeTown();
        Check.due("P14 no town", none.give(51), -1);
        Check.due("P17 no town", none.status(0), 1);
    }

    private static void mercies() {
        GrudgeTown x = new GrudgeTown();
        Check.due("P15 it is so", x.mercy(2), false);
        Check.due("P15 mercy(10)", x.mercy(10), false);
        Check.due("P15 mercy(-1)", x.mercy(-1), false);
        Check.due("P15 still", x.count(7), 2);
        Check.due("P15 mercy(9)", x.mercy(9), true);
        Check.due("P15 it is so", x.mercy(9), false);
        Check.due("P15 mercy(0)", x.mercy(0), true);
        Check.due("P15 now", x.count(7), 0);
        for (int what = 0; what < 5; what++) {
            Check.due("P17 no acts", x.status(what), 0);
        }
    }

    private static void years() {
        GrudgeTown x = new GrudgeTown();
        Check.due("P16 no town", x.years(1, 5), -1);
        Check.feed(x, "sk0;p;p;p");
        x.text(0);
        Check.due("P16 years(0, 5)", x.years(0, 5), -1);
        Check.due("P16 years(61, 5)", x.years(61, 5), -1);
        for (int what = 0; what < 5; what++) {
            Check.due("P16 no status", x.status(what), 0);
        }
        Check.due("P16 years(1, 5)", x.years(1, 5), 1);
        x.undo();
        Check.due("P16 years(60, 5)", x.years(60, 5), 60);
        Check.due("P16 for nothing", x.rule(1), 60);
        Check.due("P16 acts", x.count(10), 40);
        x.undo();
        Check.due("P18 a day with what is ahead of it", x.count(5), 59);
        Check.due("P18 log", x.count(9), 59);
        for (int i = 0; i < 15; i++) {
            x.years(60, i);
        }
        Check.due("P16 years(41, 5) beyond", x.years(41, 5), -1);
        Check.due("P16 years(40, 5)", x.years(40, 5), 999);
        // A seed tells all.
        GrudgeTown y = Check.town("sk0;p;p;p");
        GrudgeTown z = Check.town("sk0;p;p;p");
        y.years(60, -7);
        z.years(60, -7);
        for (int i = 0; i < 60; i++) {
            for (int what = 0; what < 3; what++) {
                Check.due("P16 the same by the same seed", y.log(i, what), z.log(i, what));
            }
        }
    }

    /** The same days by draws and by hand: draws reckoned here. */
    private static void yearsByHand() {
        for (long seed = -3; seed < 40; seed++) {
            String text = (seed % 3 == 0 ? "sf0k99" : "sf1k99") + ";pt5;p;pt2l9;p;gw9;go1a0w9;go2a3w9k2";
            GrudgeTown x = Check.town(text);
            GrudgeTown y = Check.town(text);
            int mercy = (int) Math.floorMod(seed, 10L);
            x.mercy(mercy);
            x.years(20, seed * 123456789012345L);
            long drawn = seed * 123456789012345L;
            for (int i = 0; i < 20; i++) {
                drawn = drawn * 6364136223846793005L + 1442695040888963407L;
                int one = (int) ((drawn >>> 33) % 4);
                drawn = drawn * 6364136223846793005L + 1442695040888963407L;
                y.offends(one, (int) ((drawn >>> 33) % 4));
                drawn = drawn * 6364136223846793005L + 1442695040888963407L;
                if ((drawn >>> 33) % 10 < mercy) {
                    drawn = drawn * 6364136223846793005L + 1442695040888963407L;
                    y.forgives((int) ((drawn >>> 33) % 12));
                }
                y.days(1);
            }
            for (int i = 0; i < 20; i++) {
                for (int what = 0; what < 3; what++) {
                    Check.due("P16 log(" + i + ", " + what + ")", x.log(i, what), y.log(i, what));
                }
            }
            for (int i = 0; i < 12; i++) {
                for (int what = 0; what < 4; what++) {
                    Check.due("P16 grudge(" + i + ", " + what + ")", x.grudge(i, what), y.grudge(i, what));
                }
            }
        }
    }

    private static void undoing() {
        GrudgeTown x = Check.town("sf6k9;p;p;g;go1a0w6");
        Check.due("P18 none", x.undo(), -1);
        x.becomes(0, 1);
        x.forgives(1);
        x.offends(1, 0);
        x.give(7);
        x.days(2);
        x.offends(5, 0);
        Check.due("P36 acts", x.count(10), 6);
        Check.due("P18 a day", x.undo(), 5);
        Check.due("P18 day", x.count(5), 1);
        Check.due("P18 log", x.count(9), 1);
        Check.due("P18 coins", x.rule(1), 14);
        Check.due("P18 in town", x.most(5), 2);
        Check.due("P18 a day", x.undo(), 4);
        Check.due("P18 log", x.log(0, 0), -1);
        Check.due("P18 in town", x.most(5), 3);
        Check.due("P18 a gift", x.undo(), 3);
        Check.due("P18 coins", x.rule(1), 6);
        Check.due("P18 an offence", x.undo(), 2);
        Check.due("P18 coins", x.rule(1), 7);
        Check.due("P18 its place", x.grudge(1, 2), -1);
        Check.due("P18 one forgiven", x.undo(), 1);
        Check.due("P18 heavy again", x.grudge(1, 2), 6);
        Check.due("P18 a kind", x.undo(), 0);
        Check.due("P18 plain again", x.grudge(0, 3), 0);
        Check.due("P18 coins", x.rule(1), 9);
        Check.due("P18 none", x.undo(), -1);
        Check.due("P18 status stays", x.status(0), 1);
        for (int i = 0; i < 45; i++) {
            x.give(1);
        }
        Check.due("P18 40 at most", x.count(10), 40);
        for (int i = 39; i >= 0; i--) {
            Check.due("P18 one by one", x.undo(), i);
        }
        Check.due("P18 no more", x.undo(), -1);
        Check.due("P18 five are left", x.rule(1), 14);
    }

    private static void images() {
        GrudgeTown x = new GrudgeTown();
        Check.due("P34 no town", x.image(), -1);
        Check.due("P35 no image", x.back(), -1);
        Check.feed(x, "sf2;p;p;p;gw9;go1a0w9;ga2w3");
        x.text(0);
        Check.due("P35 no image", x.back(), -1);
        x.days(2);
        Check.due("P34 image()", x.image(), 2);
        x.offends(2, 0);
        x.becomes(0, 1);
        x.days(3);
        Check.due("P35 back()", x.back(), 2);
        Check.due("P35 day", x.count(5), 2);
        Check.due("P35 log", x.count(9), 2);
        Check.due("P35 log", x.log(0, 0), 4);
        Check.due("P35 coins", x.rule(1), 22);
        Check.due("P35 grudges", x.count(6), 2);
        Check.due("P35 kind", x.grudge(0, 3), 0);
        Check.due("P35 heavy", x.grudge(0, 2), 5);
        Check.due("P35 in town", x.most(5), 3);
        Check.due("P35 no act", x.count(10), 0);
        Check.due("P35 none to undo", x.undo(), -1);
        // Other days than those of the image, then it again: the log is the image's.
        x.days(1);
        x.image();
        Check.due("P35 log of the image", x.log(0, 1), 2);
        x.undo();
        x.forgives(0);
        x.forgives(1);
        x.days(1);
        Check.due("P35 another log", x.log(0, 0), 3);
        Check.due("P35 back()", x.back(), 3);
        Check.due("P35 the log as it was", x.log(0, 0), 0);
        Check.due("P35 the log as it was", x.log(0, 1), 2);
        Check.due("P35 the log as it was", x.log(0, 2), 3);
        Check.due("P35 back() again", x.back(), 3);
        Check.feed(x, "p;p");
        x.text(0);
        Check.due("P35 no image of this town", x.back(), -1);
    }

    private static void firstOfSeveral() {
        GrudgeTown none = new GrudgeTown();
        none.days(0);
        none.offends(0, 0);
        none.forgives(0);
        none.becomes(0, 5);
        none.give(99);
        Check.due("P17 no town first", none.status(0), 5);
        Check.due("P17 no town first", none.status(1), 0);
        GrudgeTown x = Check.town("sk0;p;p;p;go0a1w9;go1a0w9");
        x.days(1);
        x.undo();
        Check.due("P17 no coin", x.offends(0, 1), -1);
        Check.due("P17 alike first", x.offends(1, 1), -1);
        Check.due("P17 no such kind first", x.becomes(0, 3), -1);
        Check.due("P17 it is so first", x.becomes(0, 0), -1);
        x.days(1);
        x.offends(0, 1);
        Check.due("P17 not in town first", x.offends(0, 2), -1);
        int[] want = {0, 2, 2, 1, 0};
        for (int what = 0; what < 5; what++) {
            Check.due("P17 status(" + what + ")", x.status(what), want[what]);
        }
    }
}
