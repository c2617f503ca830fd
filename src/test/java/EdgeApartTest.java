/** The bounds that the document names of what is reckoned apart: promises 21 to 25 and 31 to 33. */
public final class EdgeApartTest {
    private static final int NONE = GrudgeTown.NONE;
    private static final int ALL_PARTS = 1000000000;

    public static void main(String[] args) {
        staysWho();
        staysHowLong();
        emptiesWhen();
        fewestAsked();
        fewestRows();
        fewestPlaces();
        fewestFromTheHut();
        fewestBehindEach();
        rids();
        treaties();
        oddsAsked();
        oddsAtTheEnds();
        oddsCut();
        sharesAsked();
        sharesCut();
        mostAsked();
        mostOfSeveral();
        mostOfNobody();
        fadingAndLeaving();
        pairs();
        lastPlace();
        nothingIsOtherwise();
        Check.finish();
    }

    private static void staysWho() {
        Check.due("P21 no town", new GrudgeTown().stays(0), NONE);
        for (int persons = 2; persons <= 5; persons++) {
            GrudgeTown x = Check.town("p" + ";p".repeat(persons - 1));
            for (int person = -2; person <= 6; person++) {
                Check.due("P21 stays(" + person + ") of " + persons, x.stays(person),
                        person >= 0 && person < persons ? 0 : NONE);
            }
            for (int far : Check.FAR) {
                Check.due("P21 stays(" + far + ")", x.stays(far), NONE);
            }
        }
    }

    /** Not in town now: 0; he goes at the first: 0; 99 and more: 99. */
    private static void staysHowLong() {
        for (int weight = 1; weight <= 30; weight++) {
            for (int fade = 1; fade <= 9; fade++) {
                GrudgeTown x = Check.town("sf" + fade + ";p;p;gw" + weight + ";go1a0w30k1");
                Check.due("P21 of " + weight + " by " + fade, x.stays(1), (weight - 1) / fade);
                Check.due("P21 the other one, kept through the next", x.stays(0), (weight - 1) / fade + 1);
            }
        }
        GrudgeTown ever = Check.town("sf0;p;p;p;gw1;go1a0w1");
        Check.due("P21 99", ever.stays(0), 99);
        Check.due("P21 he goes at the first", ever.stays(2), 0);
        ever.days(1);
        Check.due("P21 not in town", ever.stays(2), 0);
        Check.due("P21 99 still", ever.stays(0), 99);
        ever.days(38);
        for (int i = 0; i < 16; i++) {
            ever.days(60);
        }
        Check.due("P36 day", ever.count(5), 999);
        Check.due("P21 days go on behind 999", ever.stays(0), 99);
        Check.due("P22 days go on behind 999", ever.empty(), NONE);
        GrudgeTown late = Check.town("sf1;p;p;gw30k1;go1a0w30k1");
        for (int i = 0; i < 16; i++) {
            late.days(60);
        }
        late.days(39);
        late.becomes(0, 0);
        Check.due("P21 30 behind 999", late.stays(1), 29);
        Check.due("P22 31 behind 999", late.empty(), 31);
        Check.due("P23 30 behind 999", late.fewest(2, 29, 1), 0);
        Check.due("P23 30 behind 999", late.fewest(2, 30, 1), NONE);
        Check.due("P31 8 behind 999", late.odds(1, 8, 100), ALL_PARTS);
        Check.due("P29 20 behind 999", late.game(0, 1, 0, 0, 0), 20);
    }

    private static void emptiesWhen() {
        Check.due("P22 no town", new GrudgeTown().empty(), NONE);
        Check.due("P22 at the first", Check.town("p;p").empty(), 1);
        GrudgeTown x = Check.town("p;p");
        x.days(1);
        Check.due("P22 now", x.empty(), 0);
        Check.due("P22 never", Check.town("sf0;p;p;gw1;go1a0w1").empty(), NONE);
        Check.due("P22 the last in the end", Check.town("sf0;p;p;gw1").empty(), 2);
        // The longest that ends: two by 30, then three more, one by one.
        GrudgeTown longest = Check.town("p;p;p;p;p;gw30;go1a0w30;go1a2k1;go2a3k1;go3a4k1");
        Check.due("P22 33", longest.empty(), 33);
        Check.due("P21 32", longest.stays(4), 32);
        longest.days(33);
        Check.due("P22 then", longest.empty(), 0);
        longest.undo();
        Check.due("P22 at the next", longest.empty(), 1);
    }

    private static void fewestAsked() {
        Check.due("P23 no town", new GrudgeTown().fewest(1, 1, 0), NONE);
        for (int persons = 2; persons <= 5; persons++) {
            GrudgeTown x = Check.town("sf0;p" + ";p".repeat(persons - 1));
            int all = (1 << persons) - 1;
            Check.due("P23 nobody", x.fewest(0, 1, 1), NONE);
            Check.due("P23 the first of " + persons, x.fewest(1, 1, 1), 1);
            Check.due("P23 all of " + persons, x.fewest(all, 1, 1), persons);
            Check.due("P23 no such persons of " + persons, x.fewest(all + 1, 1, 1), NONE);
            Check.due("P23 no such persons of " + persons, x.fewest(all + 2, 1, 1), NONE);
            Check.due("P23 below", x.fewest(-1, 1, 1), NONE);
            for (int far : Check.FAR) {
                Check.due("P23 fewest(" + far + ", 1, 0)", x.fewest(far, 1, 0), NONE);
                Check.due("P23 fewest(1, " + far + ", 0)", x.fewest(1, far, 0), NONE);
                Check.due("P23 fewest(1, 1, " + far + ")", x.fewest(1, 1, far), NONE);
            }
        }
        GrudgeTown x = Check.town("sf0;p;p;g;go1a0");
        for (int n = -1; n <= 32; n++) {
            boolean fine = n >= 1 && n <= 30;
            Check.due("P23 fewest(3, " + n + ", 0)", x.fewest(3, n, 0), fine ? 99 : NONE);
            Check.due("P23 fewest(3, " + n + ", 1)", x.fewest(3, n, 1), fine ? 0 : NONE);
        }
        for (int what = -2; what <= 3; what++) {
            Check.due("P23 fewest(3, 1, " + what + ")", x.fewest(3, 1, what), what == 0 ? 99 : what == 1 ? 0 : NONE);
        }
    }

    /** Digits by persons, the first the highest, 9 nobody; the fewest offences, then the least row. */
    private static void fewestRows() {
        GrudgeTown five = Check.town("sf0;p;p;p;p;p");
        Check.due("P23 the first of five", five.fewest(1, 1, 0), 19999);
        Check.due("P23 the second of five", five.fewest(2, 1, 0), 90999);
        Check.due("P23 the fifth of five", five.fewest(16, 1, 0), 99990);
        Check.due("P23 all five", five.fewest(31, 1, 0), 10000);
        Check.due("P23 the first and the fifth", five.fewest(17, 1, 0), 19990);
        // For two sunsets the one who is offended must stay, too.
        Check.due("P23 the fifth for two", five.fewest(16, 2, 0), 19990);
        Check.due("P23 the fifth for two", five.fewest(16, 2, 1), 2);
        // Two who offend each other keep each other.
        Check.due("P23 the first for 30", five.fewest(1, 30, 0), 10999);
        GrudgeTown none = Check.town("sf0;p;p;p;p;p;g;go1a0;ga2;ga3;ga4");
        Check.due("P23 nobody of five offends", none.fewest(31, 30, 0), 99999);
        Check.due("P23 nobody of five offends", none.fewest(31, 30, 1), 0);
        GrudgeTown two = Check.town("sf0;p;p");
        Check.due("P23 two", two.fewest(3, 30, 0), 10);
        Check.due("P23 two", two.fewest(3, 30, 1), 2);
        Check.due("P23 the first", two.fewest(1, 1, 0), 19);
        Check.due("P23 the second", two.fewest(2, 1, 0), 90);
        // Of several with as many offences the least, even where fewer digits are 9 further on.
        GrudgeTown three = Check.town("sf0;p;p;p;g;go1a0");
        Check.due("P23 the least row", three.fewest(4, 30, 0), 990);
        three.forgives(1);
        Check.due("P23 the least row for all", three.fewest(7, 30, 0), 190);
        // Coins do not matter.
        GrudgeTown poor = Check.town("sk0;p;p;p;p;p");
        Check.due("P23 without a coin", poor.fewest(31, 1, 1), 5);
    }

    /** A row in which there is no place for an offence does not count. */
    private static void fewestPlaces() {
        for (int free = 0; free <= 3; free++) {
            // Two are kept round; each of the other three must offend.
            GrudgeTown x = Check.town("sf0k50;p;p;p;p;p;g;go1a0;g;g;g;g;g;g;g");
            for (int i = 9; i < 12 - free; i++) {
                x.offends(1, 0);
            }
            Check.due("P33 free", x.most(9), free);
            Check.due("P23 the fifth, " + free + " free", x.fewest(16, 1, 0), free >= 1 ? 99990 : NONE);
            Check.due("P23 two, " + free + " free", x.fewest(24, 1, 0), free >= 2 ? 99900 : NONE);
            Check.due("P23 three, " + free + " free", x.fewest(28, 1, 0), free >= 3 ? 99000 : NONE);
            Check.due("P23 three, " + free + " free", x.fewest(28, 1, 1), free >= 3 ? 3 : NONE);
            Check.due("P23 two who need none", x.fewest(3, 30, 0), 99999);
        }
    }

    /** Whom one offends must be in town by then; who offends from the hut is. */
    private static void fewestFromTheHut() {
        GrudgeTown x = Check.town("sf0;p;p;p;p;go2a3;go3a2");
        x.days(1);
        Check.due("P23 two are in the hut", x.most(5), 12);
        Check.due("P23 the first, by the lowest in town", x.fewest(1, 9, 0), 2999);
        Check.due("P23 the second, by the lowest in town", x.fewest(2, 9, 0), 9299);
        Check.due("P23 both, the second by the first who is back", x.fewest(3, 9, 0), 2099);
        GrudgeTown y = Check.town("sf0;p;p;p;p;g;go1a0");
        y.days(1);
        Check.due("P23 the fourth, by the lowest", y.fewest(8, 9, 0), 9990);
        Check.due("P23 both", y.fewest(12, 9, 0), 9900);
        GrudgeTown nobody = Check.town("p;p;p");
        nobody.days(1);
        for (int persons = 1; persons <= 7; persons++) {
            Check.due("P23 nobody is in town", nobody.fewest(persons, 1, 0), NONE);
        }
        // In the hut and not back: not in town behind the first sunset.
        GrudgeTown full = Check.town("sf0k9;p;p;p;g;go1a0;g;g;g;g;g;g;g;g");
        full.offends(0, 1);
        full.offends(0, 1);
        full.days(1);
        Check.due("P23 in the hut without a place", full.fewest(4, 1, 0), NONE);
        Check.due("P23 those in town", full.fewest(3, 1, 0), 999);
    }

    private static void fewestBehindEach() {
        // One of weight w is in town behind w - 1 sunsets; an offence weighs 6.
        GrudgeTown x = Check.town("p;p;gw9k1;go1a0w3");
        Check.due("P23 behind two", x.fewest(1, 2, 1), 0);
        Check.due("P23 behind three", x.fewest(1, 3, 1), 1);
        Check.due("P23 behind five", x.fewest(1, 5, 0), 19);
        Check.due("P23 behind six", x.fewest(1, 6, 0), NONE);
        Check.due("P23 behind 30", x.fewest(1, 30, 0), NONE);
        GrudgeTown thirty = Check.town("p;p;gw9k1;go1a0w30");
        Check.due("P23 behind 29", thirty.fewest(1, 29, 1), 0);
        Check.due("P23 behind 30", thirty.fewest(1, 30, 1), NONE);
        Check.law(thirty, "y:30");
        Check.due("P23 behind 30", thirty.fewest(1, 30, 1), NONE);
    }

    /** Those that would hold behind (i): fading to 0, never said, of one in the hut. */
    private static void rids() {
        Check.due("P24 no town", new GrudgeTown().rid(0), NONE);
        for (int fade = 0; fade <= 9; fade++) {
            for (int weight = 1; weight <= 11; weight++) {
                for (int kind = 0; kind <= 2; kind++) {
                    GrudgeTown x = Check.town("sf" + fade + ";p;p;gw" + weight + "k" + kind);
                    boolean left = kind == 1 || weight > fade;
                    Check.due("P24 of " + weight + " by " + fade + " kind " + kind, x.rid(1), left ? 1 : 0);
                    Check.due("P24 nothing against him", x.rid(0), 0);
                }
            }
        }
        GrudgeTown x = Check.town("sf0;p;p;p;go0a1;go1a0;go2a1");
        Check.due("P24 both", x.rid(1), 5);
        for (int person = -2; person <= 6; person++) {
            if (person < 0 || person > 2) {
                Check.due("P24 rid(" + person + ")", x.rid(person), NONE);
            }
        }
        for (int far : Check.FAR) {
            Check.due("P24 rid(" + far + ")", x.rid(far), NONE);
        }
        x.days(1);
        Check.due("P24 not of one in the hut", x.rid(1), 1);
        Check.due("P24 not in town", x.rid(2), NONE);
        x.forgives(0);
        Check.due("P24 of one in the hut alone", x.rid(1), 0);
        GrudgeTown full = Check.town("sf0;p;p;g;g;g;g;g;g;g;g;g;g");
        full.offends(1, 0);
        full.offends(1, 0);
        Check.due("P24 twelve", full.rid(1), 4095);
    }

    private static void treaties() {
        Check.due("P25 no town", new GrudgeTown().treaty(0, 1), NONE);
        for (int persons = 2; persons <= 5; persons++) {
            GrudgeTown x = Check.town("sf6;p" + ";p".repeat(persons - 1) + ";gw7;go1a0w6");
            for (int one = -1; one <= 6; one++) {
                for (int other = -1; other <= 6; other++) {
                    boolean fine = one >= 0 && other >= 0 && one < persons && other < persons && one != other;
                    int want = fine ? one + other == 1 ? 1 : 0 : NONE;
                    Check.due("P25 treaty(" + one + ", " + other + ") of " + persons, x.treaty(one, other), want);
                }
            }
            for (int far : Check.FAR) {
                Check.due("P25 treaty(0, " + far + ")", x.treaty(0, far), NONE);
                Check.due("P25 treaty(" + far + ", 0)", x.treaty(far, 0), NONE);
                Check.due("P25 treaty(" + far + ", " + far + ")", x.treaty(far, far), NONE);
            }
            x.days(1);
            Check.due("P25 one is not heavy any more", x.treaty(0, 1), 0);
        }
        hutTreaty();
    }

    /** In town or not: heavy is enough. The fourth wills to the first what he holds against the third in the hut. */
    private static void hutTreaty() {
        GrudgeTown x = Check.town("sf0;p;p;p;p;g;go1a0;go2a0;go3a2");
        x.days(2);
        Check.due("P25 two are in the hut", x.most(5), 3);
        Check.due("P25 the third holds one alone", x.treaty(0, 2), 0);
        x.becomes(3, 2);
        x.forgives(x.offends(3, 0));
        x.days(1);
        Check.due("P25 the first is heir", x.grudge(3, 0), 0);
        Check.due("P25 one in the hut", x.treaty(0, 2), 1);
        Check.due("P33 one in the hut", x.most(10), 2);
        x.becomes(3, 0);
        x.forgives(1);
        x.days(1);
        Check.due("P25 the second alone is in town", x.most(5), 2);
        Check.due("P25 both in the hut", x.treaty(2, 0), 1);
        Check.due("P33 both in the hut", x.most(10), 1);
    }

    private static void oddsAsked() {
        Check.due("P31 no town", new GrudgeTown().odds(0, 1, 1), NONE);
        GrudgeTown x = Check.town("sf0;p;p;gk1;go1a0k1");
        for (int n = -2; n <= 10; n++) {
            boolean fine = n >= 0 && n <= 8;
            Check.due("P31 odds(0, " + n + ", 50)", x.odds(0, n, 50), fine ? ALL_PARTS : NONE);
        }
        for (int chance = -2; chance <= 103; chance++) {
            boolean fine = chance >= 0 && chance <= 100;
            Check.due("P31 odds(0, 8, " + chance + ")", x.odds(0, 8, chance), fine ? ALL_PARTS : NONE);
        }
        for (int person = -2; person <= 6; person++) {
            boolean fine = person == 0 || person == 1;
            Check.due("P31 odds(" + person + ", 0, 0)", x.odds(person, 0, 0), fine ? ALL_PARTS : NONE);
        }
        for (int far : Check.FAR) {
            Check.due("P31 odds(" + far + ", 1, 1)", x.odds(far, 1, 1), NONE);
            Check.due("P31 odds(0, " + far + ", 1)", x.odds(0, far, 1), NONE);
            Check.due("P31 odds(0, 1, " + far + ")", x.odds(0, 1, far), NONE);
        }
    }

    private static void oddsAtTheEnds() {
        for (int fade = 0; fade <= 9; fade++) {
            for (int n = 0; n <= 8; n++) {
                GrudgeTown x = Check.town("sf" + fade + ";p;p;gw30;go1a0w30k1");
                boolean slow = 30 - n * fade > 0;
                boolean fast = 30 - n * (fade + 1) > 0;
                Check.due("P31 chance 0, " + fade + " " + n, x.odds(1, n, 0), n == 0 || slow ? ALL_PARTS : 0);
                Check.due("P31 chance 100, " + fade + " " + n, x.odds(1, n, 100), n == 0 || fast ? ALL_PARTS : 0);
            }
        }
        GrudgeTown hut = Check.town("sf0;p;p;p;g;go1a0");
        Check.due("P31 in town now", hut.odds(2, 0, 50), ALL_PARTS);
        Check.due("P31 he goes at the first", hut.odds(2, 1, 50), 0);
        hut.days(1);
        Check.due("P31 not in town now", hut.odds(2, 0, 50), 0);
    }

    /** Of each part chance hundredths, cut, fade more: reckoned here over all ways it may go. */
    private static void oddsCut() {
        int[] chances = {0, 1, 2, 3, 33, 37, 50, 67, 97, 98, 99, 100};
        for (int fade = 0; fade <= 3; fade++) {
            for (int weight = 2; weight <= 30; weight += 4) {
                for (int n = 0; n <= 8; n += 2) {
                    for (int chance : chances) {
                        GrudgeTown x = Check.town("sf" + fade + ";p;p;gw" + weight + ";go1a0w30k1");
                        Check.due("P31 " + fade + " " + weight + " odds(1, " + n + ", " + chance + ")",
                                x.odds(1, n, chance), partsOf(weight, fade, n, chance));
                    }
                }
            }
        }
    }

    private static long partsOf(int weight, int fade, int n, int chance) {
        long in = 0;
        for (int way = 0; way < 1 << n; way++) {
            long parts = ALL_PARTS;
            int left = weight;
            for (int i = 0; i < n; i++) {
                boolean more = (way >> i & 1) == 1;
                parts = more ? parts * chance / 100 : parts - parts * chance / 100;
                left -= more ? fade + 1 : fade;
            }
            in += left > 0 ? parts : 0;
        }
        return in;
    }

    private static void sharesAsked() {
        Check.due("P32 no town", new GrudgeTown().shares(0, 1), NONE);
        GrudgeTown x = Check.town("p;p;g");
        for (int c = -2; c <= 1002; c++) {
            boolean fine = c >= 0 && c <= 999;
            Check.due("P32 shares(1, " + c + ")", x.shares(1, c), fine ? c : NONE);
        }
        for (int c = -3; c <= -1; c++) {
            Check.due("P32 shares(0, " + c + "), who has none", x.shares(0, c), NONE);
        }
        for (int person = -2; person <= 6; person++) {
            int want = person == 0 ? 0 : person == 1 ? 999 : NONE;
            Check.due("P32 shares(" + person + ", 999)", x.shares(person, 999), want);
        }
        for (int far : Check.FAR) {
            Check.due("P32 shares(" + far + ", 1)", x.shares(far, 1), NONE);
            Check.due("P32 shares(1, " + far + ")", x.shares(1, far), NONE);
        }
    }

    private static void sharesCut() {
        GrudgeTown none = Check.town("p;p");
        Check.due("P32 none", none.shares(0, 999), 0);
        Check.due("P32 none", none.shares(1, 0), 0);
        GrudgeTown least = Check.town("p;p;gw1");
        Check.due("P32 all of 1", least.shares(1, 999), 999);
        Check.due("P32 nothing of 1", least.shares(0, 999), 0);
        for (int first = 1; first <= 30; first++) {
            for (int second = 1; second <= 30; second += 3) {
                GrudgeTown x = Check.town("p;p;gw" + first + ";go1a0w" + second);
                Check.due("P32 cut", x.shares(1, 999), 999 * first / (first + second));
                Check.due("P32 cut", x.shares(0, 1), second / (first + second));
            }
        }
        // The most that can be: twelve by 30.
        GrudgeTown full = Check.town("sk9;p;p;p" + ";gw30".repeat(10));
        Check.law(full, "y:30");
        full.offends(1, 0);
        full.offends(2, 0);
        Check.due("P33 all", full.most(8), 360);
        Check.due("P32 eleven of twelve", full.shares(1, 999), 915);
        Check.due("P32 one of twelve", full.shares(2, 999), 83);
    }

    private static void mostAsked() {
        GrudgeTown none = new GrudgeTown();
        GrudgeTown x = Check.town("p;p");
        int[] want = {0, 0, 0, 0, NONE, 3, 0, 0, 0, 12, 0, 3};
        for (int what = -2; what <= 14; what++) {
            Check.due("P33 no town, most(" + what + ")", none.most(what), NONE);
            Check.due("P33 most(" + what + ")", x.most(what), what >= 0 && what < 12 ? want[what] : NONE);
        }
        for (int far : Check.FAR) {
            Check.due("P33 most(" + far + ")", x.most(far), NONE);
        }
    }

    /** Of several the lowest, all. */
    private static void mostOfSeveral() {
        GrudgeTown x = Check.town("sf0;pl3;pl9;pl9;pl9;go0a2w5;go1a3w5;go2a0w4;go3a1w4");
        int[] want = {2, 0, 0, 1, 0};
        for (int what = 0; what < want.length; what++) {
            Check.due("P33 most(" + what + ")", x.most(what), want[what]);
        }
        // One more is more.
        GrudgeTown y = Check.town("sf0;pl8;pl8;pl8;pl9;go0a2w5;go1a3w6;go2a0w4;go3a1w3;go3a0w1");
        int[] then = {3, 1, 3, 3, 1};
        for (int what = 0; what < then.length; what++) {
            Check.due("P33 one more, most(" + what + ")", y.most(what), then[what]);
        }
        GrudgeTown least = Check.town("p;p;p;gw1;ga2w1");
        Check.due("P33 1 is the heaviest", least.most(4), 0);
        Check.due("P33 a burden of 1", least.most(0), 1);
        least.forgives(0);
        Check.due("P33 the other 1", least.most(4), 1);
        least.forgives(1);
        Check.due("P33 there is none", least.most(4), NONE);
        // Sour is by how many, not how heavy; hated by how heavy, not how many.
        GrudgeTown z = Check.town("sf0;p;p;p;go0a1w30;go1a0w1;go1a0w1;go2a1w1");
        Check.due("P33 hated", z.most(0), 1);
        Check.due("P33 loved", z.most(1), 2);
        Check.due("P33 sour", z.most(2), 1);
        Check.due("P33 heaviest", z.most(4), 0);
    }

    private static void mostOfNobody() {
        GrudgeTown x = Check.town("sf0;pl1;pl2;gk1w5");
        x.days(1);
        Check.due("P33 hated, of one", x.most(0), 1);
        Check.due("P33 loved, of one", x.most(1), 1);
        x.days(1);
        int[] want = {NONE, NONE, 0, 1, 0, 0, 0, 0, 5, 11, 0, 0};
        for (int what = 0; what < want.length; what++) {
            Check.due("P33 nobody in town, most(" + what + ")", x.most(what), want[what]);
        }
    }

    private static void fadingAndLeaving() {
        for (int fade = 0; fade <= 9; fade++) {
            for (int weight = 1; weight <= 11; weight++) {
                for (int kind = 0; kind <= 2; kind++) {
                    GrudgeTown x = Check.town("sf" + fade + ";p;p;gw" + weight + "k" + kind + ";go1a0w30");
                    boolean fades = kind != 1 && weight <= fade;
                    String call = " of " + weight + " by " + fade + " kind " + kind;
                    Check.due("P33 fading" + call, x.most(7), fades ? 1 : 0);
                    Check.due("P33 leaving" + call, x.most(11), fades ? 2 : 0);
                    Check.due("P33 held" + call, x.most(6), 3);
                    x.days(1);
                    Check.due("P33 held then" + call, x.most(6), fades ? 0 : 3);
                    Check.due("P33 leaving then" + call, x.most(11) & 1, fades ? 1 : 0);
                }
            }
        }
    }

    private static void pairs() {
        // Each of five against the next, and the next against him: five pairs; all ten need more places.
        GrudgeTown x = Check.town("sf0k9;p;p;p;p;p;g;go1a0;go1a2;go2a1;go2a3;go3a2;go3a4;go4a3;go4a0;go0a4");
        Check.due("P33 five treaties", x.most(10), 5);
        x.offends(0, 2);
        Check.due("P33 one side alone is none", x.most(10), 5);
        x.offends(2, 0);
        Check.due("P33 six treaties", x.most(10), 6);
        x.forgives(0);
        Check.due("P33 five again", x.most(10), 5);
        GrudgeTown twice = Check.town("p;p;g;go1a0;g;go1a0");
        Check.due("P33 a pair counts once", twice.most(10), 1);
    }

    /** What is reckoned apart leaves all as it is. */
    private static void nothingIsOtherwise() {
        GrudgeTown x = Check.town("sf2k7;p;p;p;gw9;go1a0w8k2;go1a2w3;go2a1k1");
        Check.law(x, "y:n+m+d+s");
        x.days(1);
        x.seen(0, 3, true);
        long[] ahead = Watch.of(x);
        for (int person = 0; person < 3; person++) {
            x.stays(person);
            x.rid(person);
            x.odds(person, 8, 40);
            x.shares(person, 500);
            x.weighs(person, (person + 1) % 3);
            x.treaty(person, (person + 1) % 3);
            x.rests(person, (person + 1) % 3, NONE);
            x.game(person, (person + 1) % 3, 1, 2, 0);
        }
        x.empty();
        x.fewest(7, 20, 0);
        x.weights(1, 3);
        x.whom(2, 4);
        for (int what = 0; what < 12; what++) {
            x.most(what);
        }
        Watch.same("P21 apart", Watch.of(x), ahead);
        for (int what = 0; what < 5; what++) {
            Check.due("P17 no status by it", x.status(what), 0);
        }
    }

    /** All that is told of several grudges tells of the one in the twelfth place, too. */
    private static void lastPlace() {
        GrudgeTown x = Check.town("p;p;p;gw5;gw5;gw5;gw5;gw5;gw5;gw5;gw5;gw5;gw5");
        Check.due("P11 the place ahead of the last", x.offends(0, 1), 10);
        Check.law(x, "y:30");
        Check.due("P33 who is under none", x.most(11), 4);
        Check.due("P11 the last place", x.offends(2, 0), 11);
        Check.due("P33 the heaviest", x.most(4), 11);
        Check.due("P33 nobody will go", x.most(11), 0);
        Check.due("P33 all hold", x.most(6), 4095);
        Check.due("P33 together", x.most(8), 86);
        Check.due("P33 none is free", x.most(9), 0);
        Check.due("P33 the most hated", x.most(0), 1);
        Check.due("P7 against him", x.person(2, 3), 1 << 11);
        Check.due("P7 held by him", x.person(0, 4), 1023 | 1 << 11);
        Check.due("P7 burden", x.person(2, 5), 30);
        Check.due("P24 rid", x.rid(2), 1 << 11);
        Check.due("P32 shares", x.shares(2, 86), 30);
        // The second goes at the fifth sunset, the first at the sixth, who is hated by him alone at the seventh.
        Check.due("P21 stays", x.stays(2), 6);
        x.days(4);
        Check.due("P33 the others fade", x.most(7), 1023);
        x.days(1);
        Check.due("P36 two are left", x.count(6), 2);
        Check.due("P25 no treaty", x.treaty(0, 2), 0);
        Check.due("P12 forgiven in the last place", x.forgives(11), 0);
        Check.due("P33 the heaviest now", x.most(4), 10);
    }
}
