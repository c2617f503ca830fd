/** The bounds that the document names of sunsets, days, coins by days and the log: promises 7, 8, 10 and 19. */
public final class EdgeSunsetTest {
    private static final int NONE = GrudgeTown.NONE;

    public static void main(String[] args) {
        fading();
        holding();
        allAtOnce();
        oneBehindTheOther();
        heirs();
        heirsOfSeveral();
        willsThatAreNot();
        againstOneInTheHut();
        coinsByDays();
        lastDay();
        daysAtOnce();
        logRows();
        logOfManyDays();
        persons();
        grudges();
        Check.finish();
    }

    /** (i): kinds 0 and 2 by as much as they fade, 0 at least; a place with nothing heavy has none. */
    private static void fading() {
        for (int fade = 0; fade <= 9; fade++) {
            for (int weight = 1; weight <= 30; weight++) {
                for (int kind = 0; kind <= 2; kind++) {
                    String text = "sf" + fade + ";p;p;gw" + weight + "k" + kind + ";go1a0w30k1";
                    GrudgeTown x = Check.town(text);
                    boolean fading = kind != 1 && weight <= fade;
                    Check.due("P33 fading of " + text, x.most(7), fading ? 1 : 0);
                    x.days(1);
                    int left = kind == 1 ? weight : Math.max(0, weight - fade);
                    Check.due("P10 left of " + text, x.grudge(0, 2), left == 0 ? NONE : left);
                    Check.due("P10 who is in town of " + text, x.most(5), left == 0 ? 1 : 3);
                    Check.due("P19 heavy by the log of " + text, x.log(0, 1), left == 0 ? 1 : 2);
                    Check.due("P19 who went of " + text, x.log(0, 0), left == 0 ? 2 : 0);
                    Check.due("P33 free of " + text, x.most(9), left == 0 ? 11 : 10);
                }
            }
        }
    }

    /** A grudge holds if it is heavy and who holds it is in town. */
    private static void holding() {
        GrudgeTown x = Check.town("sf0;p;p;p;gw1;go1a0w1;go2a0w9");
        Check.due("P33 all hold", x.most(6), 7);
        Check.due("P7 burden", x.person(0, 5), 10);
        x.days(1);
        Check.due("P10 1 is heavy enough", x.most(5), 3);
        Check.due("P33 one of the hut does not hold", x.most(6), 3);
        Check.due("P7 burden", x.person(0, 5), 1);
        Check.due("P7 against", x.person(0, 3), 6);
        Check.due("P7 in town", x.person(0, 2), 1);
        Check.due("P7 in the hut", x.person(2, 2), 0);
        x.forgives(1);
        x.days(1);
        Check.due("P10 the hut's does not keep him", x.most(5), 2);
        Check.due("P7 in the hut", x.person(0, 2), 0);
    }

    /** (ii): who goes is told by what holds then, not by what holds when others went. */
    private static void allAtOnce() {
        GrudgeTown x = Check.town("sf9;p;p;p;p;p;gw9;go1a2w10;go2a3w9;go3a4w10");
        Check.due("P33 leaving", x.most(11), 11);
        x.days(1);
        Check.due("P10 all who have none go", x.log(0, 0), 11);
        Check.due("P10 kept by those who go", x.most(5), 20);
        x.days(1);
        Check.due("P10 then they go", x.log(0, 0), 20);
        GrudgeTown y = Check.town("p;p;p;p;p");
        y.days(1);
        Check.due("P10 without grudges all go", y.log(0, 0), 31);
        y.days(1);
        Check.due("P10 nobody goes twice", y.log(0, 0), 0);
        Check.due("P19 nobody is in town", y.log(0, 2), 0);
    }

    private static void oneBehindTheOther() {
        GrudgeTown x = Check.town("sf9;p;p;p;p;p;gk1w1;go1a2k1w1;go2a3k1w1;go3a4k1w1");
        for (int i = 0; i < 5; i++) {
            Check.due("P21 stays(" + i + ")", x.stays(i), i);
        }
        Check.due("P22 empty()", x.empty(), 5);
        for (int i = 0; i < 5; i++) {
            x.days(1);
            Check.due("P10 who went at " + i, x.log(0, 0), 1 << i);
            Check.due("P10 all are heavy still", x.log(0, 1), 4);
        }
    }

    /** (iii): the lowest who is in town still and not the one it is against, for each who went and each against. */
    private static void heirs() {
        for (int kept = 0; kept < 32; kept++) {
            for (int went = 0; went < 5; went++) {
                for (int against = 0; against < 5; against++) {
                    if (went != against && (kept >> went & 1) == 0 && Integer.bitCount(kept) != 1) {
                        heir(kept, went, against);
                    }
                }
            }
        }
    }

    /** Those kept are kept round by grudges never said, the one against by the willed one itself. */
    private static void heir(int kept, int went, int against) {
        StringBuilder text = new StringBuilder("sf1;p;p;p;p;p;go" + went + "a" + against + "w2k2");
        int first = Integer.numberOfTrailingZeros(kept);
        int ahead = first;
        for (int i = first + 1; i < 5; i++) {
            if ((kept >> i & 1) == 1) {
                text.append(";go").append(ahead).append("a").append(i).append("w1k1");
                ahead = i;
            }
        }
        if (kept != 0) {
            text.append(";go").append(ahead).append("a").append(first).append("w1k1");
        }
        GrudgeTown x = Check.town(text.toString());
        x.days(1);
        int in = kept | 1 << against;
        Check.due("P10 in town by " + text, x.most(5), in);
        int others = in & ~(1 << against);
        String call = "P10 who holds it by " + text;
        Check.due(call, x.grudge(0, 0), others == 0 ? NONE : Integer.numberOfTrailingZeros(others));
        Check.due("P10 how heavy by " + text, x.grudge(0, 2), others == 0 ? NONE : 1);
        Check.due("P10 its kind by " + text, x.grudge(0, 3), others == 0 ? NONE : 2);
        int heavy = Integer.bitCount(kept) + (others == 0 ? 0 : 1);
        Check.due("P19 heavy by " + text, x.log(0, 1), heavy);
        Check.due("P11 the place without an heir is free by " + text, x.offends(went, against),
                others == 0 ? 0 : heavy);
    }

    /** By numbers, each by itself: of one who went, of two who went, of one who stays. */
    private static void heirsOfSeveral() {
        GrudgeTown x = Check.town("sf0;p;p;p;p;p;go4a0k2;go4a1k2;go3a0k2;go3a2k2;go2a0;go0a2k2;go4a2");
        x.days(1);
        Check.due("P10 in town", x.most(5), 7);
        int[] holders = {1, 0, 1, 0, 2, 0, 4};
        for (int i = 0; i < holders.length; i++) {
            Check.due("P10 who holds " + i, x.grudge(i, 0), holders[i]);
        }
        // A will is carried out once more when the heir goes.
        GrudgeTown y = Check.town("sf1;p;p;p;p;ga3w9k2;go3a1w2;go3a2w3;go2a3w9");
        y.days(1);
        Check.due("P10 the second holds it", y.grudge(0, 0), 1);
        y.days(1);
        Check.due("P10 the third holds it", y.grudge(0, 0), 2);
        y.days(1);
        Check.due("P10 nobody is left but the one it is against", y.grudge(0, 0), NONE);
        Check.due("P10 he is in town", y.most(5), 8);
    }

    private static void willsThatAreNot() {
        // Faded at that sunset: nothing is willed.
        GrudgeTown faded = Check.town("sf3;p;p;p;go0a1w3k2;go1a2w30k1;go2a1w30k1");
        faded.days(1);
        Check.due("P10 faded, not willed", faded.grudge(0, 0), NONE);
        GrudgeTown just = Check.town("sf3;p;p;p;go0a1w4k2;go1a2w30k1;go2a1w30k1");
        just.days(1);
        Check.due("P10 1 is left and willed", just.grudge(0, 0), 2);
        // Plain and never said ones stay with one who went.
        for (int kind = 0; kind <= 1; kind++) {
            GrudgeTown x = Check.town("sf0;p;p;p;go0a1k" + kind + ";go1a2;go2a1");
            x.days(1);
            Check.due("P10 kind " + kind + " stays his", x.grudge(0, 0), 0);
            Check.due("P10 kind " + kind + " is heavy", x.grudge(0, 2), 6);
        }
        // Made willed in the hut: he does not go just then. Back in town and gone again: it is willed.
        GrudgeTown hut = Check.town("sf0;p;p;p;go0a1;go1a2;go2a1");
        hut.days(1);
        Check.due("P13 of one in the hut", hut.becomes(0, 2), 0);
        hut.days(2);
        Check.due("P10 he went ahead of it", hut.grudge(0, 0), 0);
        int place = hut.offends(0, 1);
        hut.forgives(place);
        hut.days(1);
        Check.due("P10 gone again just then", hut.grudge(0, 0), 2);
    }

    /** The one it is against may be in the hut; with nobody in town it is nothing heavy any more. */
    private static void againstOneInTheHut() {
        GrudgeTown x = Check.town("sf0;p;p;p;p;ga1;go2a3;go3a2");
        x.days(2);
        Check.due("P10 the first, then the second went", x.most(5), 12);
        x.becomes(0, 2);
        int place = x.offends(0, 2);
        Check.due("P11 the first is back", x.most(5), 13);
        x.image();
        x.forgives(place);
        x.days(1);
        Check.due("P10 the lowest in town", x.grudge(0, 0), 2);
        x.back();
        x.forgives(place);
        x.forgives(1);
        x.forgives(2);
        x.days(1);
        Check.due("P10 nobody is in town", x.most(5), 0);
        Check.due("P10 it is nothing heavy", x.grudge(0, 0), NONE);
        Check.due("P19 nothing is heavy", x.log(0, 1), 0);
    }

    private static void coinsByDays() {
        GrudgeTown x = Check.town("sk0;p;p");
        Check.due("P6 no coin", x.rule(1), 0);
        x.days(1);
        Check.due("P10 one more", x.rule(1), 1);
        GrudgeTown y = Check.town("sk98;p;p");
        for (int i = 0; i < 18; i++) {
            y.give(50);
        }
        Check.due("P6 998", y.rule(1), 998);
        y.days(1);
        Check.due("P10 999", y.rule(1), 999);
        Check.due("P10 a day with 999", y.days(1), 2);
        Check.due("P10 999 at most", y.rule(1), 999);
        y.days(60);
        Check.due("P10 999 at most", y.rule(1), 999);
        for (int i = 0; i < 40; i++) {
            y.undo();
        }
        Check.due("P18 999 as it was", y.rule(1), 999);
        Check.due("P18 day", y.count(5), 22);
        y.years(1, 3);
        Check.due("P16 999 at most", y.rule(1), 999);
    }

    private static void lastDay() {
        for (int left = 0; left <= 61; left++) {
            for (int n = left - 1; n <= left + 1; n++) {
                GrudgeTown x = Check.town("sf0;p;p;g;go1a0");
                for (int i = 0; i < 15; i++) {
                    x.days(60);
                }
                x.days(38);
                x.days(60);
                Check.due("P36 day", x.count(5), 998);
                for (int i = 1; i < left && i < 40; i++) {
                    x.undo();
                }
                int day = x.count(5);
                if (left == 0) {
                    Check.due("P10 the last day", x.days(1), 999);
                    day = 999;
                }
                boolean inBounds = n >= 1 && n <= 60;
                boolean can = inBounds && day + n <= 999;
                Check.due("P10 days(" + n + ") at " + day, x.days(n), can ? day + n : NONE);
                Check.due("P36 the day then", x.count(5), can ? day + n : day);
                Check.due("P17 out of bounds", x.status(1), inBounds ? 0 : 1);
                Check.due("P17 beyond the last day", x.status(4), inBounds && !can ? 1 : 0);
            }
        }
    }

    private static void daysAtOnce() {
        GrudgeTown none = new GrudgeTown();
        int[] refused = {-1, 0, 1, 60, 61};
        for (int n : refused) {
            Check.due("P10 no town, days(" + n + ")", none.days(n), NONE);
        }
        Check.due("P17 no town comes first", none.status(0), refused.length);
        Check.due("P17 no town comes first", none.status(1), 0);
        for (int n = -2; n <= 62; n++) {
            GrudgeTown x = Check.town("p;p");
            boolean can = n >= 1 && n <= 60;
            Check.due("P10 days(" + n + ")", x.days(n), can ? n : NONE);
            Check.due("P17 out of bounds, days(" + n + ")", x.status(1), can ? 0 : 1);
            Check.due("P36 acts by days(" + n + ")", x.count(10), can ? Math.min(40, n) : 0);
            Check.due("P36 log by days(" + n + ")", x.count(9), can ? n : 0);
        }
        GrudgeTown far = Check.town("p;p");
        for (int n : Check.FAR) {
            Check.due("P10 days(" + n + ")", far.days(n), NONE);
        }
        Check.due("P17 out of bounds", far.status(1), Check.FAR.length);
        Check.due("P36 no day went by", far.count(5), 0);
    }

    private static void logRows() {
        GrudgeTown none = new GrudgeTown();
        Check.due("P19 no town", none.log(0, 0), NONE);
        GrudgeTown x = Check.town("p;p;gw3;go1a0w9");
        for (int what = -1; what <= 3; what++) {
            Check.due("P19 no day yet, log(0, " + what + ")", x.log(0, what), NONE);
        }
        x.days(3);
        int[][] want = {{2, 1, 1}, {0, 2, 3}, {0, 2, 3}};
        for (int i = -2; i <= 4; i++) {
            for (int what = -2; what <= 4; what++) {
                boolean there = i >= 0 && i < 3 && what >= 0 && what < 3;
                Check.due("P19 log(" + i + ", " + what + ")", x.log(i, what), there ? want[i][what] : NONE);
            }
        }
        for (int far : Check.FAR) {
            Check.due("P19 log(" + far + ", 0)", x.log(far, 0), NONE);
            Check.due("P19 log(0, " + far + ")", x.log(0, far), NONE);
        }
    }

    /** The latest 60 rows, told from one another by who went at the first four sunsets. */
    private static void logOfManyDays() {
        for (int days = 58; days <= 62; days++) {
            GrudgeTown x = Check.town("p;p;p;p;p;go0a1w2;go1a0w3;ga2w1;ga3w30k1");
            x.days(days - 55);
            x.days(55);
            int rows = Math.min(60, days);
            Check.due("P36 rows behind " + days, x.count(9), rows);
            Check.due("P19 no row behind the last", x.log(rows, 0), NONE);
            // Who went at the sunsets 1 .. 4: the third and the fifth, the second, the first, the fourth.
            int[] went = {20, 2, 1, 8};
            for (int day = 1; day <= 4; day++) {
                int i = days - day;
                Check.due("P19 who went at " + day + " of " + days, x.log(i, 0), i < 60 ? went[day - 1] : NONE);
            }
            Check.due("P19 then nobody", x.log(days - 5, 0), 0);
            x.undo();
            Check.due("P18 rows behind " + days + " less one", x.count(9), Math.min(60, days - 1));
            int i = days - 1 - 1;
            Check.due("P18 the oldest is there again", x.log(i, 0), i < 60 ? went[0] : NONE);
        }
    }

    private static void persons() {
        GrudgeTown none = new GrudgeTown();
        Check.dueThrows("P7 no town", none, 0, 0);
        for (int persons = 2; persons <= 5; persons++) {
            GrudgeTown x = Check.town("pt9l0" + ";pt9l0".repeat(persons - 1));
            int[] want = {9, 0, 1, 0, 0, 0};
            for (int person = -2; person <= 6; person++) {
                for (int what = -2; what <= 7; what++) {
                    String call = "P7 person(" + person + ", " + what + ") of " + persons;
                    if (person >= 0 && person < persons && what >= 0 && what < 6) {
                        Check.due(call, x.person(person, what), want[what]);
                    } else {
                        Check.dueThrows(call, x, person, what);
                    }
                }
            }
            for (int far : Check.FAR) {
                Check.dueThrows("P7 person(" + far + ", 0)", x, far, 0);
                Check.dueThrows("P7 person(0, " + far + ")", x, 0, far);
                Check.dueThrows("P7 person(" + far + ", " + far + ")", x, far, far);
            }
        }
    }

    private static void grudges() {
        GrudgeTown none = new GrudgeTown();
        Check.due("P8 no town", none.grudge(0, 0), NONE);
        GrudgeTown x = Check.town("p;p;g;g;g;g;g;g;g;g;g;g");
        x.offends(1, 0);
        int[] want = {0, 1, 6, 0};
        for (int made = 11; made <= 12; made++) {
            for (int grudge = -2; grudge <= 13; grudge++) {
                for (int what = -2; what <= 5; what++) {
                    boolean there = grudge >= 0 && grudge < made && what >= 0 && what < 4;
                    Check.due("P8 grudge(" + grudge + ", " + what + ") of " + made, x.grudge(grudge, what),
                            there ? want[what] : NONE);
                }
            }
            x.offends(1, 0);
        }
        for (int far : Check.FAR) {
            Check.due("P8 grudge(" + far + ", 0)", x.grudge(far, 0), NONE);
            Check.due("P8 grudge(0, " + far + ")", x.grudge(0, far), NONE);
        }
    }
}
