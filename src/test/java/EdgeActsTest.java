/** The bounds that the document names of acts by hand, status and undoing: promises 11 to 15, 17 and 18. */
public final class EdgeActsTest {
    private static final int NONE = GrudgeTown.NONE;

    public static void main(String[] args) {
        offendsWhom();
        offendsInTown();
        offendsForCoins();
        lowestPlace();
        noPlace();
        offenceIsPlain();
        forgivesWhat();
        forgivesInTown();
        becomesWhat();
        becomesForCoins();
        gives();
        givesUpTo999();
        mercies();
        statusOf();
        statusFirst();
        undoes();
        undoesAtMost();
        undoesEach();
        undoesNoRefusal();
        Check.finish();
    }

    /** A status row: how many were refused by each reason. */
    private static void status(String call, GrudgeTown x, int... want) {
        for (int what = 0; what < 5; what++) {
            Check.due(call + ": status(" + what + ")", x.status(what), want[what]);
        }
    }

    private static void offendsWhom() {
        GrudgeTown none = new GrudgeTown();
        Check.due("P11 no town", none.offends(0, 1), NONE);
        Check.due("P11 no town, alike", none.offends(0, 0), NONE);
        status("P11 no town", none, 2, 0, 0, 0, 0);
        for (int persons = 2; persons <= 5; persons++) {
            for (int one = -1; one <= 6; one++) {
                for (int other = -1; other <= 6; other++) {
                    GrudgeTown x = Check.town("p" + ";p".repeat(persons - 1));
                    boolean told = one >= 0 && other >= 0 && one < persons && other < persons;
                    boolean fine = told && one != other;
                    String call = "P11 offends(" + one + ", " + other + ") of " + persons;
                    Check.due(call, x.offends(one, other), fine ? 0 : NONE);
                    status(call, x, told ? 0 : 1, told && !fine ? 1 : 0, 0, 0, 0);
                    Check.due(call + ": coins", x.rule(1), fine ? 19 : 20);
                    Check.due(call + ": acts", x.count(10), fine ? 1 : 0);
                    Check.due(call + ": who holds it", x.grudge(0, 0), fine ? other : NONE);
                    Check.due(call + ": against whom", x.grudge(0, 1), fine ? one : NONE);
                }
            }
        }
        GrudgeTown x = Check.town("p;p");
        for (int far : Check.FAR) {
            Check.due("P11 offends(" + far + ", 0)", x.offends(far, 0), NONE);
            Check.due("P11 offends(0, " + far + ")", x.offends(0, far), NONE);
            Check.due("P11 offends(" + far + ", " + far + ")", x.offends(far, far), NONE);
        }
        status("P11 far", x, 3 * Check.FAR.length, 0, 0, 0, 0);
    }

    /** The other one must be in town; the one who offends need not, and is then. */
    private static void offendsInTown() {
        GrudgeTown x = Check.town("sf0;p;p;p;p;g;go1a0");
        x.days(1);
        Check.due("P11 two are in the hut", x.most(5), 3);
        Check.due("P11 one in town, the other not", x.offends(0, 2), NONE);
        Check.due("P11 neither in town", x.offends(3, 2), NONE);
        Check.due("P11 alike, not in town", x.offends(2, 2), NONE);
        status("P11 hut", x, 0, 1, 2, 0, 0);
        Check.due("P11 he is not in town by it", x.most(5), 3);
        Check.due("P11 out of the hut", x.offends(2, 0), 2);
        Check.due("P11 he is in town", x.most(5), 7);
        Check.due("P11 now he can be offended", x.offends(3, 2), 3);
        Check.due("P11 both are in town", x.most(5), 15);
        x.undo();
        Check.due("P18 in the hut again", x.most(5), 7);
        x.undo();
        Check.due("P18 in the hut again", x.most(5), 3);
        // One who is in town stays so.
        Check.due("P11 both in town", x.offends(0, 1), 2);
        Check.due("P11 as it was", x.most(5), 3);
    }

    private static void offendsForCoins() {
        for (int coins = 0; coins <= 2; coins++) {
            GrudgeTown x = Check.town("sk" + coins + ";p;p");
            for (int i = 0; i < 3; i++) {
                Check.due("P11 with " + coins + ", offence " + i, x.offends(0, 1), i < coins ? i : NONE);
                Check.due("P11 coins then", x.rule(1), Math.max(0, coins - 1 - i));
            }
            status("P11 with " + coins, x, 0, 0, 0, 3 - coins, 0);
        }
        GrudgeTown x = Check.town("sk0;p;p");
        x.days(1);
        x.undo();
        Check.due("P11 no coin", x.offends(0, 1), NONE);
        x.give(1);
        Check.due("P11 a coin", x.offends(0, 1), 0);
    }

    /** The lowest place with none, wherever it is. */
    private static void lowestPlace() {
        for (int free = 0; free < 12; free++) {
            GrudgeTown x = fullTown();
            Check.due("P12 forgives(" + free + ")", x.forgives(free), free == 11 ? 0 : 10);
            Check.due("P33 free", x.most(9), 1);
            Check.due("P11 the place that is free", x.offends(0, 1), free);
            Check.due("P11 none is free", x.offends(0, 1), NONE);
        }
        GrudgeTown x = fullTown();
        x.forgives(9);
        x.forgives(3);
        x.forgives(7);
        Check.due("P11 the lowest of three", x.offends(0, 1), 3);
        Check.due("P11 the lowest of two", x.offends(0, 1), 7);
        Check.due("P11 the last", x.offends(0, 1), 9);
        // A place is free when what was there has faded.
        GrudgeTown y = Check.town("p;p;gw3;gw1;gw3;go1a0w9");
        y.days(1);
        Check.due("P11 a place that faded", y.offends(0, 1), 1);
        for (int fade = 3; fade <= 9; fade++) {
            GrudgeTown z = Check.town("sf" + fade + ";p;p;gw10;gw3;gw10;go1a0w10");
            z.days(1);
            Check.due("P11 a place that would be below 0 by " + fade, z.offends(0, 1), 1);
        }
    }

    /** Twelve grudges: eleven against the second one, the last against the first. */
    private static GrudgeTown fullTown() {
        GrudgeTown x = Check.town("sf0k50;p;p;g;g;g;g;g;g;g;g;g;g");
        x.offends(1, 0);
        x.offends(0, 1);
        return x;
    }

    private static void noPlace() {
        GrudgeTown x = Check.town("sf0k9;p;p;g;g;g;g;g;g;g;g;g;g");
        Check.due("P33 two are free", x.most(9), 2);
        Check.due("P11 place 10", x.offends(0, 1), 10);
        Check.due("P11 place 11", x.offends(0, 1), 11);
        Check.due("P33 none is free", x.most(9), 0);
        Check.due("P11 no place", x.offends(0, 1), NONE);
        status("P11 no place", x, 0, 0, 0, 1, 0);
        Check.due("P11 no coin is taken", x.rule(1), 7);
        // In the hut he stays there without a place.
        GrudgeTown y = Check.town("sf0k9;p;p;p;g;g;g;g;g;g;g;g;g;go1a0");
        y.days(1);
        y.offends(0, 1);
        y.offends(0, 1);
        Check.due("P11 no place", y.offends(2, 0), NONE);
        Check.due("P11 he is in the hut still", y.most(5), 3);
    }

    private static void offenceIsPlain() {
        for (int kind = 0; kind <= 2; kind++) {
            GrudgeTown x = Check.town("p;p;gw9k" + kind);
            x.forgives(0);
            Check.due("P11 in its place", x.offends(1, 0), 0);
            int[] want = {0, 1, 6, 0};
            for (int what = 0; what < 4; what++) {
                Check.due("P11 grudge(0, " + what + ")", x.grudge(0, what), want[what]);
            }
        }
    }

    private static void forgivesWhat() {
        GrudgeTown none = new GrudgeTown();
        Check.due("P12 no town", none.forgives(0), NONE);
        status("P12 no town", none, 1, 0, 0, 0, 0);
        for (int grudge = -2; grudge <= 14; grudge++) {
            GrudgeTown x = Check.town("p;p;g;g;g");
            boolean there = grudge >= 0 && grudge < 3;
            Check.due("P12 forgives(" + grudge + ")", x.forgives(grudge), there ? 2 : NONE);
            status("P12 forgives(" + grudge + ")", x, there ? 0 : 1, 0, 0, 0, 0);
            Check.due("P12 heavy then", x.count(6), there ? 2 : 3);
            Check.due("P12 it is none then", x.forgives(grudge), NONE);
        }
        GrudgeTown full = fullTown();
        Check.due("P12 forgives(12)", full.forgives(12), NONE);
        Check.due("P12 forgives(11)", full.forgives(11), 0);
        Check.due("P12 forgives(10)", full.forgives(10), 10);
        GrudgeTown x = Check.town("p;p;g");
        for (int far : Check.FAR) {
            Check.due("P12 forgives(" + far + ")", x.forgives(far), NONE);
        }
        status("P12 far", x, Check.FAR.length, 0, 0, 0, 0);
        Check.due("P12 the last", x.forgives(0), 0);
        Check.due("P12 for nothing", x.rule(1), 20);
    }

    private static void forgivesInTown() {
        GrudgeTown x = Check.town("sf0;p;p;p;go0a1;go1a0;go2a1;go0a2");
        x.forgives(3);
        x.days(1);
        Check.due("P12 the third is in the hut", x.most(5), 3);
        Check.due("P12 he can't", x.forgives(2), NONE);
        status("P12 hut", x, 0, 0, 1, 0, 0);
        Check.due("P12 it is heavy", x.grudge(2, 2), 6);
        Check.due("P12 against one, held in the hut, too", x.forgives(0), 1);
        x.offends(2, 0);
        Check.due("P12 back in town he can", x.forgives(2), 0);
        // Against one in the hut: it is forgiven as any other.
        GrudgeTown y = Check.town("sf0;p;p;p;ga2;go0a1;go1a0");
        y.days(1);
        y.forgives(0);
        y.days(1);
        Check.due("P12 the third is in the hut", y.most(5), 3);
        y.undo();
        y.undo();
        Check.due("P12 the grudge is back", y.grudge(0, 2), 6);
    }

    private static void becomesWhat() {
        GrudgeTown none = new GrudgeTown();
        Check.due("P13 no town", none.becomes(0, 1), NONE);
        status("P13 no town", none, 1, 0, 0, 0, 0);
        for (int was = 0; was <= 2; was++) {
            for (int grudge = -1; grudge <= 13; grudge++) {
                for (int kind = -2; kind <= 4; kind++) {
                    GrudgeTown x = Check.town("sk2;p;p;gk" + was + ";gk" + was);
                    boolean there = grudge == 0 || grudge == 1;
                    boolean isKind = kind >= 0 && kind <= 2;
                    boolean fine = there && isKind && kind != was;
                    String call = "P13 becomes(" + grudge + ", " + kind + ") of kind " + was;
                    Check.due(call, x.becomes(grudge, kind), fine ? was : NONE);
                    status(call, x, there ? 0 : 1, there && !isKind ? 1 : 0, there && kind == was ? 1 : 0, 0, 0);
                    Check.due(call + ": coins", x.rule(1), fine ? 0 : 2);
                    Check.due(call + ": kind then", x.grudge(1, 3), fine && grudge == 1 ? kind : was);
                    Check.due(call + ": acts", x.count(10), fine ? 1 : 0);
                }
            }
        }
        GrudgeTown x = Check.town("p;p;g");
        for (int far : Check.FAR) {
            Check.due("P13 becomes(" + far + ", 1)", x.becomes(far, 1), NONE);
            Check.due("P13 becomes(0, " + far + ")", x.becomes(0, far), NONE);
            Check.due("P13 becomes(" + far + ", " + far + ")", x.becomes(far, far), NONE);
        }
        status("P13 far", x, 2 * Check.FAR.length, Check.FAR.length, 0, 0, 0);
        GrudgeTown full = fullTown();
        Check.due("P13 the last place", full.becomes(11, 2), 0);
        Check.due("P13 no such place", full.becomes(12, 2), NONE);
    }

    private static void becomesForCoins() {
        for (int coins = 0; coins <= 5; coins++) {
            GrudgeTown x = Check.town("sk" + coins + ";p;p;g");
            int first = x.becomes(0, 1);
            Check.due("P13 with " + coins, first, coins >= 2 ? 0 : NONE);
            Check.due("P13 coins then", x.rule(1), coins >= 2 ? coins - 2 : coins);
            Check.due("P13 with two less than " + coins, x.becomes(0, 2), coins >= 4 ? 1 : NONE);
            status("P13 with " + coins, x, 0, 0, 0, coins >= 4 ? 0 : coins >= 2 ? 1 : 2, 0);
        }
        // It is so comes ahead of too few coins.
        GrudgeTown x = Check.town("sk1;p;p;g");
        Check.due("P13 it is so", x.becomes(0, 0), NONE);
        Check.due("P13 no such kind", x.becomes(0, 3), NONE);
        Check.due("P13 none there", x.becomes(1, 1), NONE);
        Check.due("P13 too few", x.becomes(0, 1), NONE);
        status("P13 with 1", x, 1, 1, 1, 1, 0);
    }

    private static void gives() {
        GrudgeTown none = new GrudgeTown();
        for (int n = -1; n <= 51; n++) {
            none.give(n);
        }
        status("P14 no town", none, 53, 0, 0, 0, 0);
        for (int n = -2; n <= 53; n++) {
            GrudgeTown x = Check.town("sk0;p;p");
            boolean fine = n >= 1 && n <= 50;
            Check.due("P14 give(" + n + ")", x.give(n), fine ? n : NONE);
            Check.due("P14 coins", x.rule(1), fine ? n : 0);
            status("P14 give(" + n + ")", x, 0, fine ? 0 : 1, 0, 0, 0);
            Check.due("P14 acts", x.count(10), fine ? 1 : 0);
        }
        GrudgeTown x = Check.town("p;p");
        for (int far : Check.FAR) {
            Check.due("P14 give(" + far + ")", x.give(far), NONE);
        }
        status("P14 far", x, 0, Check.FAR.length, 0, 0, 0);
    }

    private static void givesUpTo999() {
        for (int left = 0; left <= 51; left++) {
            for (int n = left - 1; n <= left + 1; n++) {
                GrudgeTown x = Check.town("sk" + (99 - left) + ";p;p");
                for (int i = 0; i < 18; i++) {
                    x.give(50);
                }
                Check.due("P6 coins", x.rule(1), 999 - left);
                boolean fine = n >= 1 && n <= 50 && n <= left;
                Check.due("P14 give(" + n + ") at " + (999 - left), x.give(n), fine ? 999 - left + n : NONE);
                Check.due("P14 coins then", x.rule(1), fine ? 999 - left + n : 999 - left);
                status("P14 at " + (999 - left), x, 0, fine ? 0 : 1, 0, 0, 0);
            }
        }
    }

    private static void mercies() {
        for (int from = 0; from <= 9; from++) {
            for (int v = -2; v <= 12; v++) {
                GrudgeTown x = new GrudgeTown();
                Check.due("P15 mercy(" + from + ")", x.mercy(from), from != 2);
                boolean fine = v >= 0 && v <= 9 && v != from;
                Check.due("P15 mercy(" + v + ") from " + from, x.mercy(v), fine);
                Check.due("P36 mercy then", x.count(7), fine ? v : from);
                status("P15 mercy", x, 0, 0, 0, 0, 0);
            }
        }
        GrudgeTown x = Check.town("p;p");
        for (int far : Check.FAR) {
            Check.due("P15 mercy(" + far + ")", x.mercy(far), false);
        }
        Check.due("P15 no act", x.mercy(5), true);
        Check.due("P36 no act", x.count(10), 0);
        Check.due("P36 mercy", x.count(7), 5);
    }

    private static void statusOf() {
        GrudgeTown x = new GrudgeTown();
        for (int what = -2; what <= 7; what++) {
            Check.due("P17 status(" + what + ")", x.status(what), what >= 0 && what < 5 ? 0 : NONE);
        }
        for (int far : Check.FAR) {
            Check.due("P17 status(" + far + ")", x.status(far), NONE);
        }
        for (int i = 0; i < 300; i++) {
            x.forgives(0);
        }
        Check.due("P17 counts on", x.status(0), 300);
        // What is no act by hand is refused without status.
        x.years(0, 1);
        x.undo();
        x.back();
        x.image();
        x.seen(0, 0, true);
        x.weighs(0, 0);
        x.stays(-1);
        x.fewest(0, 0, 0);
        x.game(0, 0, 0, 0, 0);
        x.law(3);
        x.mercy(-1);
        x.text(0);
        x.end(1);
        status("P17 no acts", x, 300, 0, 0, 0, 0);
    }

    /** Of several reasons the first alone counts. */
    private static void statusFirst() {
        // Day 999, a town with one in the hut, no coin but those of days, no place.
        GrudgeTown x = Check.town("sf0k0;p;p;p;g;g;g;g;g;g;g;g;g;go1a0");
        x.offends(0, 1);
        status("no coin", x, 0, 0, 0, 1, 0);
        x.offends(0, 0);
        x.offends(3, 3);
        x.offends(-1, 0);
        status("alike, no such ones", x, 2, 1, 0, 1, 0);
        x.days(1);
        x.offends(0, 1);
        Check.due("P11 no coin again", x.rule(1), 0);
        x.offends(0, 2);
        status("in the hut without a coin", x, 2, 1, 1, 1, 0);
        x.offends(2, 2);
        status("alike in the hut", x, 2, 2, 1, 1, 0);
        x.offends(2, 3);
        status("no such one of the hut", x, 3, 2, 1, 1, 0);
        x.becomes(12, 0);
        x.becomes(12, 5);
        status("no such one of kind 5", x, 5, 2, 1, 1, 0);
        x.becomes(0, 5);
        status("no such kind without coins", x, 5, 3, 1, 1, 0);
        x.becomes(0, 0);
        status("it is so without coins", x, 5, 3, 2, 1, 0);
        x.becomes(0, 1);
        status("too few coins", x, 5, 3, 2, 2, 0);
        x.days(61);
        x.days(0);
        status("out of bounds", x, 5, 5, 2, 2, 0);
        for (int i = 0; i < 17; i++) {
            x.days(60);
        }
        Check.due("P36 days 1 .. 961", x.count(5), 961);
        status("beyond", x, 5, 5, 2, 2, 1);
        x.days(61);
        x.days(1000);
        status("out of bounds and beyond", x, 5, 7, 2, 2, 1);
        x.days(39);
        status("beyond by one", x, 5, 7, 2, 2, 2);
    }

    private static void undoes() {
        GrudgeTown none = new GrudgeTown();
        Check.due("P18 no town", none.undo(), NONE);
        GrudgeTown x = Check.town("p;p");
        Check.due("P18 none", x.undo(), NONE);
        x.give(1);
        Check.due("P18 one", x.undo(), 0);
        Check.due("P18 none any more", x.undo(), NONE);
        Check.due("P18 as it was", x.rule(1), 20);
        x.days(3);
        Check.due("P36 each day is an act", x.count(10), 3);
        Check.due("P18 two still can be", x.undo(), 2);
        Check.due("P18 the day", x.count(5), 2);
        x.days(1);
        Check.due("P36 three again", x.count(10), 3);
        Check.feed(x, "p;p");
        x.text(0);
        Check.due("P18 none of another town", x.undo(), NONE);
        // Laws, mercy, what was seen and the tape are no acts.
        x.mercy(7);
        Check.law(x, "y:9");
        x.seen(0, 1, true);
        Check.feed(x, "abc");
        x.image();
        Check.due("P18 no acts", x.undo(), NONE);
    }

    /** The latest 40. */
    private static void undoesAtMost() {
        for (int acts = 38; acts <= 43; acts++) {
            GrudgeTown x = Check.town("sk0;p;p");
            for (int i = 0; i < acts; i++) {
                x.give(1);
                Check.due("P36 acts", x.count(10), Math.min(40, i + 1));
            }
            int can = Math.min(40, acts);
            for (int i = 1; i <= can; i++) {
                Check.due("P18 undo() of " + acts, x.undo(), can - i);
                Check.due("P18 coins", x.rule(1), acts - i);
            }
            Check.due("P18 none any more of " + acts, x.undo(), NONE);
            Check.due("P18 coins as by what is too long ago", x.rule(1), acts - can);
            x.give(7);
            Check.due("P18 one again", x.undo(), 0);
            Check.due("P18 as it was", x.rule(1), acts - can);
        }
        GrudgeTown x = Check.town("p;p");
        x.days(60);
        Check.due("P36 40 of 60 days", x.count(10), 40);
        for (int i = 39; i >= 0; i--) {
            Check.due("P18 a day", x.undo(), i);
            Check.due("P36 the day", x.count(5), 20 + i);
            Check.due("P36 rows", x.count(9), 20 + i);
        }
        Check.due("P18 none any more", x.undo(), NONE);
    }

    /** Each sort of act is undone whole. */
    private static void undoesEach() {
        GrudgeTown x = Check.town("sf6k2;p;p;p;gk1;go1a0w7;go0a2w9k2;go2a0w5");
        String[] acts = {"offends", "forgives", "becomes", "gives", "day", "year"};
        for (String act : acts) {
            long[] ahead = Watch.of(x);
            switch (act) {
                case "offends":
                    x.offends(2, 1);
                    break;
                case "forgives":
                    x.forgives(2);
                    break;
                case "becomes":
                    x.becomes(1, 2);
                    break;
                case "gives":
                    x.give(50);
                    break;
                case "day":
                    x.days(1);
                    break;
                default:
                    x.years(1, 12345);
                    break;
            }
            Check.due("P36 an act: " + act, x.count(10), 1);
            Check.due("P18 undo: " + act, x.undo(), 0);
            Watch.same("P18 as it was: " + act, Watch.of(x), ahead);
        }
    }

    /** What is refused is no act; status is not undone. */
    private static void undoesNoRefusal() {
        GrudgeTown x = Check.town("sk1;p;p;g");
        x.give(5);
        x.offends(0, 0);
        x.offends(0, 9);
        x.becomes(0, 0);
        x.days(0);
        x.forgives(5);
        x.give(51);
        Check.due("P36 one act", x.count(10), 1);
        status("P17 refused", x, 2, 3, 1, 0, 0);
        Check.due("P18 the gift", x.undo(), 0);
        Check.due("P18 coins", x.rule(1), 1);
        status("P17 not undone", x, 2, 3, 1, 0, 0);
    }
}
