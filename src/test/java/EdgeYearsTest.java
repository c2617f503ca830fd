/** The bounds that the document names of years, images and counts: promises 16 and 34 to 36. */
public final class EdgeYearsTest {
    private static final int NONE = GrudgeTown.NONE;

    public static void main(String[] args) {
        howManyDays();
        upToTheLastDay();
        seeds();
        mercyBounds();
        forgivesTheLightest();
        nobodyInTown();
        noPlace();
        forNothing();
        oneActEach();
        images();
        imageInsteadOfTheOneAhead();
        imageOfThisTown();
        imageOfALongLog();
        whatAnImageLeaves();
        counts();
        Check.finish();
    }

    private static void howManyDays() {
        GrudgeTown none = new GrudgeTown();
        Check.due("P16 no town", none.years(1, 1), NONE);
        for (int n = -2; n <= 62; n++) {
            GrudgeTown x = Check.town("p;p");
            boolean fine = n >= 1 && n <= 60;
            Check.due("P16 years(" + n + ", 1)", x.years(n, 1), fine ? n : NONE);
            Check.due("P16 the day", x.count(5), fine ? n : 0);
            Check.due("P16 acts", x.count(10), fine ? Math.min(40, n) : 0);
            Check.due("P16 rows", x.count(9), fine ? n : 0);
        }
        GrudgeTown x = Check.town("p;p");
        for (int far : Check.FAR) {
            Check.due("P16 years(" + far + ", 1)", x.years(far, 1), NONE);
        }
        noStatus("P16 refused", x);
        noStatus("P16 no town", none);
    }

    private static void noStatus(String call, GrudgeTown x) {
        for (int what = 0; what < 5; what++) {
            Check.due(call + ": status(" + what + ")", x.status(what), 0);
        }
    }

    private static void upToTheLastDay() {
        GrudgeTown x = Check.town("p;p");
        for (int i = 1; i <= 16; i++) {
            Check.due("P16 years(60, 7)", x.years(60, 7), 60 * i);
        }
        for (int n = 40; n <= 60; n++) {
            Check.due("P16 years(" + n + ", 7) beyond", x.years(n, 7), NONE);
        }
        Check.due("P16 nothing went by", x.count(5), 960);
        Check.due("P16 years(39, 7)", x.years(39, 7), 999);
        Check.due("P16 years(1, 7) beyond", x.years(1, 7), NONE);
        x.undo();
        Check.due("P16 years(2, 7) beyond", x.years(2, 7), NONE);
        Check.due("P16 years(1, 7)", x.years(1, 7), 999);
        noStatus("P16 beyond", x);
    }

    /** Seeds at the ends of 64 bits, and such as go round at once, laid beside the same draws by hand. */
    private static void seeds() {
        long[] seeds = {0, 1, -1, Long.MIN_VALUE, Long.MIN_VALUE + 1, Long.MAX_VALUE, Long.MAX_VALUE - 1, 1L << 32,
            1L << 33, (1L << 33) - 1, 0xffffffffL, -1442695040888963407L, Integer.MIN_VALUE, Integer.MAX_VALUE};
        for (long seed : seeds) {
            for (int persons = 2; persons <= 5; persons++) {
                for (int mercy : new int[] {0, 2, 9}) {
                    byHand(seed, persons, mercy, 12);
                }
            }
        }
    }

    private static void byHand(long seed, int persons, int mercy, int n) {
        String text = "sf1k99;pt9" + ";pt9".repeat(persons - 1) + ";gw30;go1a0w30";
        GrudgeTown x = Check.town(text);
        GrudgeTown y = Check.town(text);
        x.mercy(mercy);
        Check.due("P16 years(" + n + ", " + seed + ")", x.years(n, seed), n);
        long[] drawn = {seed};
        for (int i = 0; i < n; i++) {
            int one = draw(drawn, persons);
            y.offends(one, draw(drawn, persons));
            if (draw(drawn, 10) < mercy) {
                y.forgives(draw(drawn, 12));
            }
            y.days(1);
        }
        String call = "P16 by hand, seed " + seed + ", persons " + persons + ", mercy " + mercy;
        for (int i = 0; i < n; i++) {
            for (int what = 0; what < 3; what++) {
                Check.due(call + ": log(" + i + ", " + what + ")", x.log(i, what), y.log(i, what));
            }
        }
        for (int i = 0; i < 12; i++) {
            for (int what = 0; what < 4; what++) {
                Check.due(call + ": grudge(" + i + ", " + what + ")", x.grudge(i, what), y.grudge(i, what));
            }
        }
        Check.due(call + ": in town", x.most(5), y.most(5));
        Check.due(call + ": coins for nothing", x.rule(1), 99 + n);
    }

    /** A draw by numbers of any size, so that nothing goes round but where it is told to. */
    private static int draw(long[] x, int j) {
        java.math.BigInteger round = java.math.BigInteger.ONE.shiftLeft(64);
        java.math.BigInteger next = java.math.BigInteger.valueOf(x[0])
                .multiply(new java.math.BigInteger("6364136223846793005"))
                .add(new java.math.BigInteger("1442695040888963407")).mod(round);
        x[0] = next.longValue();
        return next.shiftRight(33).mod(java.math.BigInteger.valueOf(j)).intValue();
    }

    /** Below mercy: at 0 nothing is ever forgiven, at 9 all but a draw of 9 forgives. */
    private static void mercyBounds() {
        GrudgeTown never = Check.town("sf0k0;p;p;gk1;go1a0k1");
        never.mercy(0);
        never.years(60, 99);
        Check.due("P16 mercy 0: all places fill", never.most(9), 0);
        Check.due("P16 mercy 0: nobody went", never.most(5), 3);
        // The first seed by which the third draw of a year is 8, the first by which it is 9.
        for (int want = 8; want <= 9; want++) {
            long seed = 0;
            while (thirdDraw(seed) != want || fourthDraw(seed) != 0) {
                seed++;
            }
            GrudgeTown x = Check.town("sf0k0;p;p;g;go1a0;g;go1a0");
            x.mercy(9);
            x.years(1, seed);
            Check.due("P16 mercy 9, a draw of " + want, x.grudge(0, 2), want == 8 ? NONE : 6);
            GrudgeTown y = Check.town("sf0k0;p;p;g;go1a0;g;go1a0");
            y.mercy(8);
            y.years(1, seed);
            Check.due("P16 mercy 8, a draw of " + want, y.grudge(0, 2), 6);
        }
    }

    /** 1 is heavy enough to be forgiven, in the first place and in the last. */
    private static void forgivesTheLightest() {
        for (int place = 0; place <= 11; place += 11) {
            long seed = 0;
            while (thirdDraw(seed) >= 2 || fourthDraw(seed) != place) {
                seed++;
            }
            GrudgeTown x = Check.town("sf0k9;p;p;gw1;go1a0w30;gw30;gw30;gw30;gw30;gw30;gw30;gw30;gw30");
            Check.law(x, "y:0");
            x.offends(0, 1);
            x.offends(1, 0);
            Check.due("P16 1 ahead of it", x.grudge(place, 2), 1);
            x.years(1, seed);
            Check.due("P16 1 in place " + place + " is forgiven", x.grudge(place, 2), NONE);
            Check.due("P16 the others are not", x.count(6), 11);
        }
    }

    private static int thirdDraw(long seed) {
        long[] x = {seed};
        draw(x, 2);
        draw(x, 2);
        return draw(x, 10);
    }

    private static int fourthDraw(long seed) {
        long[] x = {seed};
        draw(x, 2);
        draw(x, 2);
        draw(x, 10);
        return draw(x, 12);
    }

    /** Nobody can be offended, nothing forgiven: days go by and that is all. */
    private static void nobodyInTown() {
        GrudgeTown x = Check.town("sf0;p;p;p;gk1");
        x.days(2);
        Check.due("P16 nobody is in town", x.most(5), 0);
        x.mercy(9);
        Check.due("P16 years(60, 5)", x.years(60, 5), 62);
        Check.due("P16 nobody is in town still", x.most(5), 0);
        Check.due("P16 of one in the hut nothing is forgiven", x.grudge(0, 2), 6);
        Check.due("P16 no grudge came", x.count(6), 1);
    }

    private static void noPlace() {
        GrudgeTown x = Check.town("sf0k9;p;p;p;p;g;go1a2;go2a0;g;g;g;g;g;g;g");
        x.offends(0, 1);
        x.offends(1, 0);
        x.days(1);
        Check.due("P16 the fourth is in the hut", x.most(5), 7);
        x.mercy(0);
        x.years(60, 11);
        Check.due("P16 without a place nobody comes back", x.most(5), 7);
        Check.due("P16 twelve", x.count(6), 12);
    }

    private static void forNothing() {
        GrudgeTown x = Check.town("sf0k0;p;p;gk1;go1a0k1");
        x.years(1, 3);
        Check.due("P16 a coin by the day alone", x.rule(1), 1);
    }

    private static void oneActEach() {
        GrudgeTown x = Check.town("sf0k0;p;p;p;gk1;go1a0k1");
        x.mercy(9);
        long[][] ahead = new long[41][];
        for (int i = 0; i <= 40; i++) {
            ahead[i] = withoutActs(x);
            x.years(1, 1000 + i);
        }
        for (int i = 40; i >= 1; i--) {
            Check.due("P18 a year's day", x.undo(), i - 1);
            Watch.same("P16 a day with what is ahead of it is one act, " + i, withoutActs(x), ahead[i]);
        }
        Check.due("P18 the 41st", x.undo(), NONE);
    }

    /** How many acts can be undone is another number when later ones were undone. */
    private static long[] withoutActs(GrudgeTown x) {
        long[] told = Watch.of(x);
        told[10] = 0;
        return told;
    }

    private static void images() {
        GrudgeTown none = new GrudgeTown();
        Check.due("P34 no town", none.image(), NONE);
        Check.due("P35 no town", none.back(), NONE);
        GrudgeTown x = Check.town("p;p;gw9;go1a0w9");
        Check.due("P35 no image", x.back(), NONE);
        Check.due("P34 of day 0", x.image(), 0);
        Check.due("P35 at once", x.back(), 0);
        x.days(4);
        Check.due("P35 behind four days", x.back(), 0);
        Check.due("P36 no row", x.count(9), 0);
        Check.due("P19 no row", x.log(0, 0), NONE);
        Check.due("P35 no act can be undone", x.undo(), NONE);
        x.days(1);
        Check.due("P18 but one behind it", x.undo(), 0);
        Check.due("P35 once more", x.back(), 0);
        Check.due("P34 no status", x.status(0), 0);
    }

    private static void imageInsteadOfTheOneAhead() {
        GrudgeTown x = Check.town("sk5;p;p;gw9;go1a0w9");
        x.image();
        x.days(2);
        x.give(7);
        Check.due("P34 instead", x.image(), 2);
        x.days(3);
        Check.due("P35 the later one", x.back(), 2);
        Check.due("P35 its coins", x.rule(1), 14);
        x.days(5);
        Check.due("P35 the later one still", x.back(), 2);
        x.undo();
        Check.due("P34 an image of what back() brought", x.image(), 2);
    }

    private static void imageOfThisTown() {
        GrudgeTown x = Check.town("p;p;g");
        x.image();
        Check.feed(x, "p;p;x");
        Check.due("P5 a fault", x.text(0), NONE);
        Check.due("P35 the image is there still", x.back(), 0);
        x.end(3);
        x.text(0);
        Check.due("P35 none of this town", x.back(), NONE);
        Check.due("P36 no grudge of the other one", x.count(6), 0);
        Check.due("P34 of this town", x.image(), 0);
        Check.due("P35 of this town", x.back(), 0);
        Check.due("P36 persons", x.count(0), 2);
        Check.law(x, "y:3");
        Check.due("P35 a law is no town", x.back(), 0);
    }

    private static void imageOfALongLog() {
        GrudgeTown x = Check.town("p;p;p;gw5;go1a0w9;ga2w3k1");
        x.days(60);
        x.days(4);
        long[] ahead = withoutActs(x);
        Check.due("P34 of day 64", x.image(), 64);
        x.days(60);
        x.years(60, 4);
        Check.due("P35 day 64", x.back(), 64);
        Watch.same("P35 all rows of the log", withoutActs(x), ahead);
        Check.due("P36 no act", x.count(10), 0);
        // The second went at the fifth sunset, the first at the sixth.
        Check.due("P35 the 60th row", x.log(59, 0), 2);
        x.days(1);
        Check.due("P19 with a row more the 60th is another", x.log(59, 0), 1);
        x.undo();
        Watch.same("P18 the row ahead of them again", withoutActs(x), ahead);
    }

    /** Laws, which holds, mercy, what was seen, status and the tape are as they are now. */
    private static void whatAnImageLeaves() {
        GrudgeTown x = Check.town("p;p;g");
        x.image();
        Check.law(x, "y:9");
        x.mercy(8);
        x.seen(0, 1, true);
        x.offends(0, 0);
        Check.feed(x, "abc");
        x.back();
        Check.due("P35 laws", x.count(2), 1);
        Check.due("P35 the law that holds", x.count(4), 0);
        Check.due("P35 mercy", x.count(7), 8);
        Check.due("P35 seen", x.count(8), 1);
        Check.due("P35 status", x.status(1), 1);
        Check.due("P35 the tape", x.count(3), 3);
    }

    private static void counts() {
        GrudgeTown none = new GrudgeTown();
        GrudgeTown x = Check.town("p;p;p;p;p;g;g;g;g;g;g;g;g;g;g");
        int[] first = {0, 0, 0, 0, NONE, 0, 0, 2, 0, 0, 0};
        int[] told = {5, 10, 0, 0, NONE, 0, 10, 2, 0, 0, 0};
        for (int what = -2; what <= 13; what++) {
            boolean there = what >= 0 && what <= 10;
            Check.due("P36 no town, count(" + what + ")", none.count(what), there ? first[what] : GrudgeTown.HIDDEN);
            Check.due("P36 count(" + what + ")", x.count(what), there ? told[what] : GrudgeTown.HIDDEN);
        }
        for (int far : Check.FAR) {
            Check.due("P36 count(" + far + ")", x.count(far), GrudgeTown.HIDDEN);
        }
        x.offends(0, 1);
        x.offends(0, 1);
        Check.due("P36 12 heavy, 10 told", x.count(6), 12);
        Check.due("P36 12 heavy, 10 told", x.count(1), 10);
        x.forgives(0);
        Check.due("P36 11 heavy, 10 told", x.count(6), 11);
        Check.due("P36 11 heavy, 10 told", x.count(1), 10);
    }
}
