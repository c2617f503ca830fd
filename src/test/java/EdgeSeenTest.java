/** The bounds that the document names of what was seen, weights and whom to look for: promises 26 to 28. */
public final class EdgeSeenTest {
    private static final int NONE = GrudgeTown.NONE;

    public static void main(String[] args) {
        seenAsked();
        seenAtMost();
        weightsAsked();
        weightsByOneSeen();
        weightsByFading();
        nothingFits();
        asTold();
        whomAsked();
        whomBySums();
        whomOfSeveral();
        whomAgain();
        Check.finish();
    }

    private static void seenAsked() {
        Check.due("P26 no town", new GrudgeTown().seen(0, 1, true), NONE);
        for (int persons = 2; persons <= 5; persons++) {
            for (int person = -2; person <= 6; person++) {
                for (int n = -1; n <= 32; n++) {
                    GrudgeTown x = Check.town("p" + ";p".repeat(persons - 1));
                    boolean fine = person >= 0 && person < persons && n >= 1 && n <= 30;
                    String call = "P26 seen(" + person + ", " + n + ") of " + persons;
                    Check.due(call, x.seen(person, n, n % 2 == 0), fine ? 1 : NONE);
                    Check.due(call + ": count", x.count(8), fine ? 1 : 0);
                }
            }
        }
        GrudgeTown x = Check.town("p;p");
        for (int far : Check.FAR) {
            Check.due("P26 seen(" + far + ", 1)", x.seen(far, 1, true), NONE);
            Check.due("P26 seen(0, " + far + ")", x.seen(0, far, true), NONE);
        }
        Check.due("P17 no status", x.status(0) + x.status(1), 0);
    }

    private static void seenAtMost() {
        GrudgeTown x = Check.town("p;p;g");
        for (int i = 1; i <= 12; i++) {
            Check.due("P26 the " + i + "th", x.seen(1, 30, false), i <= 10 ? i : NONE);
            Check.due("P36 seen", x.count(8), Math.min(10, i));
        }
        Check.due("P26 the same again is one more", x.weights(0, NONE), 30);
        // An eleventh is not seen: it would leave nothing.
        x.seen(1, 30, true);
        Check.due("P27 as if it were not told", x.weights(0, NONE), 30);
        Check.feed(x, "p;p;g");
        x.text(0);
        Check.due("P26 none of another town", x.count(8), 0);
        Check.due("P26 the first of it", x.seen(0, 1, true), 1);
        // The tenth counts.
        GrudgeTown y = Check.town("p;p;g");
        for (int i = 0; i < 9; i++) {
            y.seen(1, 30, false);
        }
        y.seen(1, 1, false);
        Check.due("P27 the tenth counts", y.weights(0, NONE), 1);
    }

    private static void weightsAsked() {
        Check.due("P27 no town", new GrudgeTown().weights(0, NONE), NONE);
        for (int told = 0; told <= 10; told++) {
            GrudgeTown x = Check.town("p;p" + ";g".repeat(told));
            for (int grudge = -2; grudge <= 12; grudge++) {
                boolean fine = grudge >= 0 && grudge < told;
                String call = "P27 weights(" + grudge + ", ..) of " + told;
                Check.due(call + " NONE", x.weights(grudge, NONE), fine ? 30 : NONE);
                Check.due(call + " 0", x.weights(grudge, 0), fine ? 1 : NONE);
                Check.due(call + " 29", x.weights(grudge, 29), fine ? 30 : NONE);
                Check.due(call + " 30", x.weights(grudge, 30), NONE);
                Check.due(call + " -2", x.weights(grudge, -2), NONE);
            }
        }
        GrudgeTown x = Check.town("p;p;g");
        for (int far : Check.FAR) {
            Check.due("P27 weights(" + far + ", NONE)", x.weights(far, NONE), NONE);
            Check.due("P27 weights(0, " + far + ")", x.weights(0, far), NONE);
        }
        // One by an offence is not told, though it is there; one told and gone is told.
        x.offends(1, 0);
        Check.due("P27 by an offence", x.weights(1, NONE), NONE);
        x.forgives(0);
        Check.due("P27 told and forgiven", x.weights(0, NONE), 30);
    }

    /** In town behind n sunsets: heavier than n; not: n at most; at n 1 and 30, too. */
    private static void weightsByOneSeen() {
        for (int n = 1; n <= 30; n++) {
            for (int way = 0; way < 2; way++) {
                boolean is = way == 1;
                GrudgeTown x = Check.town("p;p;gw5;go1a0w30k1");
                x.seen(1, n, is);
                int least = is ? n + 1 : 1;
                int most = is ? 30 : n;
                String call = "P27 " + (is ? "in town" : "not in town") + " behind " + n;
                Check.due(call + ": how many", x.weights(0, NONE), Math.max(0, most - least + 1));
                for (int i = 0; i < 31; i++) {
                    int want = least + i <= most ? least + i : NONE;
                    Check.due(call + ": weights(0, " + i + ")", x.weights(0, i), want);
                }
            }
        }
    }

    private static void weightsByFading() {
        for (int fade = 0; fade <= 9; fade++) {
            for (int kind = 0; kind <= 2; kind++) {
                for (int n = 1; n <= 6; n++) {
                    GrudgeTown x = Check.town("sf" + fade + ";p;p;gk" + kind + ";go1a0w30k1");
                    x.seen(1, n, false);
                    int most = kind == 1 ? 0 : Math.min(30, n * fade);
                    Check.due("P27 by " + fade + " kind " + kind + " not behind " + n, x.weights(0, NONE), most);
                }
            }
        }
    }

    private static void nothingFits() {
        GrudgeTown x = Check.town("p;p;g;go1a0w30k1");
        x.seen(1, 5, true);
        x.seen(1, 5, false);
        Check.due("P27 nothing", x.weights(0, NONE), 0);
        Check.due("P27 nothing, the first", x.weights(0, 0), NONE);
        Check.due("P28 nothing", x.whom(0, 1), NONE);
        Check.due("P28 nothing", x.whom(0, 30), NONE);
        // Just one is enough.
        GrudgeTown y = Check.town("p;p;g;go1a0w30k1");
        y.seen(1, 5, true);
        y.seen(1, 6, false);
        Check.due("P27 one", y.weights(0, NONE), 1);
        Check.due("P27 the one", y.weights(0, 0), 6);
        Check.due("P27 no second", y.weights(0, 1), NONE);
        Check.due("P28 all the same: the lowest", y.whom(0, 6), 0);
    }

    /** As told, without anything else: acts, days, laws and images do not matter. */
    private static void asTold() {
        GrudgeTown x = Check.town("p;p;p;gw9;go1a0w9;ga2w4k2");
        x.seen(1, 8, true);
        x.seen(0, 8, true);
        x.seen(2, 4, false);
        int many = x.weights(0, NONE);
        int first = x.weights(0, 0);
        int whom = x.whom(2, 3);
        Check.due("P27 9 .. 30", many, 22);
        Check.due("P27 9", first, 9);
        // The third alone hangs on it: 4 at most, and behind three sunsets he is in town by 4 alone.
        Check.due("P27 1 .. 4", x.weights(2, NONE), 4);
        Check.due("P28 the third", whom, 2);
        x.image();
        x.becomes(0, 1);
        x.forgives(1);
        x.offends(2, 0);
        x.days(20);
        Check.due("P27 as told", x.weights(0, NONE), many);
        Check.due("P27 as told", x.weights(0, 0), first);
        Check.due("P28 as told", x.whom(2, 3), whom);
        x.back();
        Check.due("P27 as told", x.weights(0, NONE), many);
        Check.due("P36 seen", x.count(8), 3);
    }

    private static void whomAsked() {
        Check.due("P28 no town", new GrudgeTown().whom(0, 1), NONE);
        for (int told = 0; told <= 10; told += 5) {
            GrudgeTown x = Check.town("p;p" + ";g".repeat(told));
            for (int grudge = -2; grudge <= 12; grudge++) {
                for (int n = -1; n <= 32; n++) {
                    boolean fine = grudge >= 0 && grudge < told && n >= 1 && n <= 30;
                    int got = x.whom(grudge, n);
                    Check.due("P28 whom(" + grudge + ", " + n + ") of " + told, got != NONE, fine);
                }
            }
        }
        GrudgeTown x = Check.town("p;p;g");
        for (int far : Check.FAR) {
            Check.due("P28 whom(" + far + ", 1)", x.whom(far, 1), NONE);
            Check.due("P28 whom(0, " + far + ")", x.whom(0, far), NONE);
        }
    }

    /** Two whose being in town hangs on one grudge, a sunset apart; the others are always there. */
    private static void whomBySums() {
        for (int n = 1; n <= 30; n++) {
            GrudgeTown x = Check.town("p;p;p;p;go2a3k1;go3a2k1;go0a1;go1a0w30k1");
            // The second is in town by n + 1 .. 30, the first, whom he keeps one sunset longer, by n .. 30.
            int second = Math.abs(2 * (30 - n) - 30);
            int first = Math.abs(2 * (31 - n) - 30);
            int want = first <= second ? 0 : 1;
            if (Math.min(first, second) == 30) {
                want = 0;
            }
            Check.due("P28 whom(2, " + n + ")", x.whom(2, n), want);
            Check.due("P28 of one on which nobody hangs", x.whom(0, n), x.whom(1, n));
        }
    }

    private static void whomOfSeveral() {
        // The fourth and the fifth hang on the same grudge's holder alike: the lowest of them.
        GrudgeTown x = Check.town("p;p;p;p;p;go1a2w9;go0a1k1;go1a0k1;go2a3k1w1;go2a4k1w1");
        Check.due("P28 behind 15 the third", x.whom(0, 15), 2);
        Check.due("P28 behind 16 the fourth, as the fifth", x.whom(0, 16), 3);
        // Behind 1: the third by 2 .. 30 (29 and 1), the others always (30 and 0).
        Check.due("P28 behind 1", x.whom(0, 1), 2);
        // Asked once more it is the same: nothing is left of what was asked ahead.
        Check.due("P28 behind 15 again", x.whom(0, 15), 2);
        GrudgeTown y = Check.town("p;p;p;go0a1;go1a0w30k1;go1a2w8k1");
        for (int i = 0; i < 4; i++) {
            // Behind 16 the first by 16 .. 30 (15 and 15), the second and third by fewer or as the first.
            Check.due("P28 behind 16, the " + i + "th time", y.whom(0, 16), 0);
        }
        // Behind 30: the third never (0 and 30), the fourth and fifth by 30 alone (1 and 29).
        Check.due("P28 behind 30", x.whom(0, 30), 3);
    }

    /** Each person of five is looked for as often as one asks: nothing is left of what was asked ahead. */
    private static void whomAgain() {
        for (int person = 0; person < 5; person++) {
            int one = (person + 1) % 5;
            int other = (person + 2) % 5;
            StringBuilder town = new StringBuilder("p;p;p;p;p;go" + one + "a" + person);
            for (int i = 0; i < 5; i++) {
                if (i != person) {
                    town.append(";go").append(i == one ? other : one).append("a").append(i).append("k1");
                }
            }
            GrudgeTown x = Check.town(town.toString());
            for (int i = 0; i < 4; i++) {
                Check.due("P28 " + person + " behind 15, the " + i + "th time", x.whom(0, 15), person);
            }
        }
    }
}
