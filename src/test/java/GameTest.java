/** Promises 29 and 30: games of two and where they rest. */
public final class GameTest {
    public static void main(String[] args) {
        games();
        places();
        refused();
        rests();
        laws();
        Check.finish();
    }

    private static void games() {
        // Without grudges: who is offended goes at the first sunset, who offends at the second (1 less 2). If both
        // offend, 5 against the first fades by the fifth sunset (4 less 2), the other one is kept by him through it.
        GrudgeTown x = Check.town("sf1k0;pt5;pt3");
        int[][] first = {{0, 0, 0}, {-1, 2, -2}, {0, 0, 0}};
        int[][] second = {{0, -1, 0}, {0, 3, 0}, {0, -1, 0}};
        for (int a = 0; a < 3; a++) {
            for (int b = 0; b < 3; b++) {
                Check.due("P29 game(0, 1, " + a + ", " + b + ", 0)", x.game(0, 1, a, b, 0), first[a][b]);
                Check.due("P29 game(0, 1, " + a + ", " + b + ", 1)", x.game(0, 1, a, b, 1), second[a][b]);
            }
        }
        Check.due("P29 nothing is otherwise", x.count(6), 0);
        Check.due("P29 of the other", x.game(1, 0, 1, 1, 0), 3);
        // 20 at most.
        GrudgeTown y = Check.town("sf0;p;p;g;go1a0;go1a0w30;go0a1");
        Check.due("P29 20 at most", y.game(0, 1, 0, 0, 0), 20);
        Check.due("P29 less 2", y.game(0, 1, 1, 0, 0), 18);
        Check.due("P29 all is forgiven", y.game(0, 1, 0, 2, 0), 0);
        Check.due("P29 the other one is kept for one sunset", y.game(0, 1, 0, 2, 1), 1);
        Check.due("P29 first the first", y.game(0, 1, 2, 1, 1), 18);
        Check.due("P29 then the second", y.game(0, 1, 1, 2, 0), -2);
    }

    private static void places() {
        GrudgeTown x = Check.town("sf0;p;p;p;g;g;g;g;g;g;g;g;g;g");
        x.offends(0, 1);
        x.offends(2, 1);
        // No place: nothing, but he chose it.
        Check.due("P29 no place", x.game(0, 1, 1, 0, 0), 18);
        Check.due("P29 no place", x.game(2, 0, 1, 0, 0), 18);
        // The second has places if the first forgave.
        Check.due("P29 a place behind forgiving", x.game(0, 1, 2, 1, 1), 18);
        Check.due("P29 no place ahead of it", x.game(1, 0, 1, 2, 0), -2);
    }

    private static void refused() {
        GrudgeTown x = Check.town("p;p;p;gw9;go1a0w9");
        x.days(1);
        int hidden = GrudgeTown.HIDDEN;
        Check.due("P29 alike", x.game(0, 0, 0, 0, 0), hidden);
        Check.due("P29 one not in town", x.game(0, 2, 0, 0, 0), hidden);
        Check.due("P29 one not in town", x.game(2, 0, 0, 0, 0), hidden);
        Check.due("P29 no such one", x.game(3, 0, 0, 0, 0), hidden);
        Check.due("P29 no such one", x.game(0, -1, 0, 0, 0), hidden);
        Check.due("P29 x 3", x.game(0, 1, 3, 0, 0), hidden);
        Check.due("P29 x -1", x.game(0, 1, -1, 0, 0), hidden);
        Check.due("P29 y 3", x.game(0, 1, 0, 3, 0), hidden);
        Check.due("P29 y -1", x.game(0, 1, 0, -1, 0), hidden);
        Check.due("P29 no such what", x.game(0, 1, 0, 0, 2), hidden);
        Check.due("P29 no such what", x.game(0, 1, 0, 0, -1), hidden);
        Check.due("P30 alike", x.rests(1, 1, -1), -1);
        Check.due("P30 one not in town", x.rests(0, 2, -1), -1);
        Check.due("P30 one not in town", x.rests(2, 0, -1), -1);
        Check.due("P30 no such one", x.rests(0, 3, -1), -1);
        Check.due("P30 no such one", x.rests(-1, 0, -1), -1);
        Check.due("P30 no such i", x.rests(0, 1, -2), -1);
        Check.due("P30 no such i", x.rests(0, 1, 9), -1);
    }

    private static void rests() {
        // Nobody has more by himself where both do nothing or both offend (or both forgive).
        GrudgeTown x = Check.town("sf1k0;pt5;pt3");
        int[] want = {0, 2, 11, 20, 22};
        Check.due("P30 how many", x.rests(0, 1, -1), want.length);
        for (int i = 0; i < want.length; i++) {
            Check.due("P30 rests(0, 1, " + i + ")", x.rests(0, 1, i), want[i]);
        }
        Check.due("P30 no more", x.rests(0, 1, 5), -1);
        GrudgeTown y = Check.town("sf0;p;p;p;go2a0;go2a1;go0a2");
        // Both stay by the third: to offend costs 2, to forgive nothing is all the same.
        int[] then = {0, 2, 20, 22};
        Check.due("P30 how many", y.rests(0, 1, -1), then.length);
        for (int i = 0; i < then.length; i++) {
            Check.due("P30 rests(0, 1, " + i + ")", y.rests(0, 1, i), then[i]);
        }
        Check.due("P30 nothing is otherwise", y.count(6), 3);
        // Each is kept by the other: to forgive is to be left, but he who is forgiven had better offend.
        GrudgeTown z = Check.town("sf0;p;p;g;go1a0");
        Check.due("P30 how many", z.rests(0, 1, -1), 2);
        Check.due("P30 both do nothing", z.rests(0, 1, 0), 0);
        Check.due("P30 the first forgives, the second offends", z.rests(0, 1, 1), 21);
    }

    private static void laws() {
        // Each weighs 2 (n and m are 0, s is 1): behind one sunset each is in town still, 1 less 2.
        GrudgeTown x = Check.town("sf1;p;p");
        Check.law(x, "y:n*9+m*3+s+1");
        Check.due("P29 by a law", x.game(0, 1, 1, 1, 0), -1);
        // By how well liked: 3 each, 2 less 2.
        Check.law(x, "y:[n+d]*9+l");
        Check.due("P29 by a law", x.game(0, 1, 1, 1, 0), 0);
        Check.due("P29 by a law", x.game(0, 1, 1, 1, 1), 0);
        // The second offends one against whom there is something by then: m of him is 0, n of the second, too.
        GrudgeTown y = Check.town("sf1;p;p;go1a0w1;go0a1w1");
        Check.law(y, "y:n*4+m*2");
        // The first: n 1, m 1: 6, in town behind five (5 less 2); the second: n 1, m 1: 6, by then kept as long.
        Check.due("P29 by a law", y.game(0, 1, 1, 1, 0), 3);
        Check.due("P29 by a law", y.game(0, 1, 1, 1, 1), 3);
        Check.law(y, "y:m*2+1");
        // If the first forgives, he holds nothing: 1, faded at the first sunset; else 3, held until the first went.
        Check.due("P29 as ahead of it", y.game(0, 1, 2, 1, 1), -2);
        Check.due("P29 as ahead of it", y.game(0, 1, 0, 1, 1), -1);
    }
}
