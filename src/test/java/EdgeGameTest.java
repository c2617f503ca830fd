/** The bounds that the document names of games of two and where they rest: promises 29 and 30. */
public final class EdgeGameTest {
    private static final int NONE = GrudgeTown.NONE;
    private static final int HIDDEN = GrudgeTown.HIDDEN;

    public static void main(String[] args) {
        gameAsked();
        inTown();
        twentyAtMost();
        lessTwo();
        noPlace();
        firstTheFirst();
        forgivesAll();
        restsAsked();
        restsByGames();
        restsOfAll();
        restsByForgiving();
        Check.finish();
    }

    private static void gameAsked() {
        Check.due("P29 no town", new GrudgeTown().game(0, 1, 0, 0, 0), HIDDEN);
        Check.due("P30 no town", new GrudgeTown().rests(0, 1, NONE), NONE);
        GrudgeTown x = Check.town("sf0;p;p;p;g;go1a0;ga2");
        for (int one = -1; one <= 4; one++) {
            for (int other = -1; other <= 4; other++) {
                boolean fine = one >= 0 && other >= 0 && one < 3 && other < 3 && one != other;
                String call = "P29 game(" + one + ", " + other + ", 0, 0, ..)";
                Check.due(call, x.game(one, other, 0, 0, 0), fine ? 20 : HIDDEN);
                Check.due(call, x.game(one, other, 0, 0, 1), fine ? 20 : HIDDEN);
            }
        }
        for (int choice = -2; choice <= 4; choice++) {
            boolean fine = choice >= 0 && choice <= 2;
            Check.due("P29 x " + choice, x.game(0, 1, choice, 0, 0) != HIDDEN, fine);
            Check.due("P29 y " + choice, x.game(0, 1, 0, choice, 0) != HIDDEN, fine);
            Check.due("P29 what " + choice, x.game(0, 1, 0, 0, choice), choice == 0 || choice == 1 ? 20 : HIDDEN);
        }
        for (int far : Check.FAR) {
            Check.due("P29 one " + far, x.game(far, 1, 0, 0, 0), HIDDEN);
            Check.due("P29 other " + far, x.game(0, far, 0, 0, 0), HIDDEN);
            Check.due("P29 x " + far, x.game(0, 1, far, 0, 0), HIDDEN);
            Check.due("P29 y " + far, x.game(0, 1, 0, far, 0), HIDDEN);
            Check.due("P29 what " + far, x.game(0, 1, 0, 0, far), HIDDEN);
        }
        Check.due("P17 no status", x.status(0) + x.status(1) + x.status(2) + x.status(3), 0);
    }

    private static void inTown() {
        GrudgeTown x = Check.town("sf0;p;p;p;p;g;go1a0");
        Check.due("P29 all are in town", x.game(2, 3, 0, 0, 0), 0);
        Check.due("P30 all are in town", x.rests(2, 3, NONE) > 0, true);
        x.days(1);
        int[][] pairs = {{2, 3}, {3, 2}, {0, 2}, {2, 0}};
        for (int[] pair : pairs) {
            Check.due("P29 one not in town", x.game(pair[0], pair[1], 1, 1, 0), HIDDEN);
            Check.due("P30 one not in town", x.rests(pair[0], pair[1], NONE), NONE);
            Check.due("P30 one not in town", x.rests(pair[0], pair[1], 0), NONE);
        }
        Check.due("P29 both in town", x.game(0, 1, 0, 0, 0), 20);
        x.offends(2, 0);
        Check.due("P29 back in town", x.game(2, 0, 0, 0, 0), 20);
    }

    /** What one has: stays then, 20 at most. */
    private static void twentyAtMost() {
        for (int weight = 1; weight <= 30; weight++) {
            GrudgeTown x = Check.town("p;p;gw" + weight + ";go1a0w30k1");
            Check.due("P29 by " + weight, x.game(0, 1, 0, 0, 1), Math.min(20, weight - 1));
            Check.due("P29 the other one by " + weight, x.game(0, 1, 0, 0, 0), Math.min(20, weight));
            Check.due("P29 told the other way", x.game(1, 0, 0, 0, 0), Math.min(20, weight - 1));
        }
    }

    /** Less 2 behind the 20 at most; below 0, too. */
    private static void lessTwo() {
        GrudgeTown x = Check.town("sf0;p;p;g;go1a0");
        Check.due("P29 20 less 2", x.game(0, 1, 1, 0, 0), 18);
        Check.due("P29 he alone", x.game(0, 1, 1, 0, 1), 20);
        Check.due("P29 both", x.game(0, 1, 1, 1, 1), 18);
        Check.due("P29 to forgive costs nothing", x.game(0, 1, 2, 0, 0), 1);
        GrudgeTown y = Check.town("sf9;pt0;pt0");
        Check.due("P29 0 less 2", y.game(0, 1, 1, 0, 0), -2);
        Check.due("P29 0 less 2", y.game(0, 1, 1, 1, 1), -2);
        Check.due("P29 0", y.game(0, 1, 2, 2, 0), 0);
    }

    /** An offence without a place: nothing; the place of what was forgiven first is one. */
    private static void noPlace() {
        GrudgeTown x = Check.town("sf0k9;p;p;p;g;g;g;g;g;g;g;g;g;ga2");
        x.offends(0, 2);
        Check.due("P33 one is free", x.most(9), 1);
        // The third keeps the first; the last place is the first's against the second's offence.
        Check.due("P29 the last place", x.game(0, 1, 0, 1, 1), 18);
        Check.due("P29 the first takes it", x.game(0, 1, 1, 1, 0), 18);
        x.offends(0, 2);
        Check.due("P33 none is free", x.most(9), 0);
        Check.due("P29 no place", x.game(0, 1, 1, 0, 0), 18);
        Check.due("P29 no place, the other", x.game(0, 1, 1, 0, 1), 20);
        // Ten of the first's against the second and third: forgiving leaves places for the second's offence.
        Check.due("P29 forgiven without an offence he goes", x.game(0, 1, 2, 0, 1), 0);
        Check.due("P29 forgiven he offends in a place of it", x.game(0, 1, 2, 1, 1), 18);
        // The second first: no place, then forgiven.
        Check.due("P29 the offence came first", x.game(1, 0, 1, 2, 0), -2);
    }

    private static void firstTheFirst() {
        // A law by n and m: the second's offence weighs by the first's.
        GrudgeTown x = Check.town("sf1;p;p");
        Check.law(x, "y:n*9+m*9+2");
        // The first's: 2; then against the first n is 1, but the second offends: n 0, m of the first 0: 2.
        Check.due("P29 both weigh 2", x.game(0, 1, 1, 1, 0), -1);
        Check.due("P29 both weigh 2", x.game(0, 1, 1, 1, 1), -1);
        GrudgeTown y = Check.town("sf1;p;p;g");
        Check.law(y, "y:n*9+m*9+2");
        // The first holds one of 6: the second's offence weighs 9 + 9 + 2, were it not forgiven ahead.
        Check.due("P29 by what he holds", y.game(0, 1, 1, 1, 1), 0);
        Check.due("P29 forgiven ahead it weighs 2", y.game(0, 1, 2, 1, 1), -1);
        Check.due("P29 forgiven behind it", y.game(1, 0, 1, 2, 0), -2);
    }

    /** All that he holds against him, no other's and against nobody else. */
    private static void forgivesAll() {
        GrudgeTown x = Check.town("sf0;p;p;p;go0a1;go0a1k1;go0a1k2;go0a2;go2a0;go1a0");
        Check.due("P29 all three", x.game(0, 1, 2, 0, 1), 0);
        Check.due("P29 the one who forgave stays", x.game(0, 1, 2, 0, 0), 20);
        Check.due("P29 the third's are not", x.game(0, 2, 0, 2, 0), 20);
        GrudgeTown y = Check.town("sf0;p;p;p;go0a1;go2a1;go1a2;go1a0");
        Check.due("P29 kept by another one's", y.game(0, 1, 2, 0, 1), 20);
        Check.due("P29 nothing to forgive", y.game(0, 2, 2, 2, 0), 20);
        Check.due("P29 nothing is forgiven in truth", y.count(6), 4);
    }

    private static void restsAsked() {
        GrudgeTown x = Check.town("sf0;p;p;p;g;go1a0;ga2");
        for (int one = -1; one <= 4; one++) {
            for (int other = -1; other <= 4; other++) {
                boolean fine = one >= 0 && other >= 0 && one < 3 && other < 3 && one != other;
                Check.due("P30 rests(" + one + ", " + other + ", NONE)", x.rests(one, other, NONE) != NONE, fine);
            }
        }
        for (int far : Check.FAR) {
            Check.due("P30 one " + far, x.rests(far, 1, NONE), NONE);
            Check.due("P30 other " + far, x.rests(0, far, NONE), NONE);
            Check.due("P30 i " + far, x.rests(0, 1, far), NONE);
        }
        int many = x.rests(0, 1, NONE);
        Check.due("P30 the last", x.rests(0, 1, many - 1) != NONE, true);
        Check.due("P30 no more", x.rests(0, 1, many), NONE);
        Check.due("P30 none ahead", x.rests(0, 1, -2), NONE);
    }

    /** Laid beside the games themselves, in towns at the bounds of what can be. */
    private static void restsByGames() {
        String[] texts = {
            "sf0;p;p", "sf9;p;p", "sf1;pt0;pt9", "sf1;p;p;g", "sf1;p;p;go1a0", "sf0;p;p;g;go1a0",
            "sf2;pt9;pt9;gw30;go1a0w30", "sf1;p;p;p;ga2;go2a1;go1a0w3",
            "sf1;p;p;g;g;g;g;g;g;g;g;g;go1a0", "sf3;pt9;pt1;pt5;go2a0k1;go1a2k2;ga1w2",
        };
        for (String text : texts) {
            GrudgeTown x = Check.town(text);
            restsBeside(text, x);
            x.offends(0, 1);
            x.offends(1, 0);
            restsBeside(text + ", each offended", x);
        }
    }

    private static void restsBeside(String text, GrudgeTown x) {
        int found = 0;
        for (int a = 0; a < 3; a++) {
            for (int b = 0; b < 3; b++) {
                boolean rests = true;
                for (int c = 0; c < 3; c++) {
                    rests = rests && x.game(0, 1, c, b, 0) <= x.game(0, 1, a, b, 0);
                    rests = rests && x.game(0, 1, a, c, 1) <= x.game(0, 1, a, b, 1);
                }
                if (rests) {
                    Check.due("P30 rests(0, 1, " + found + ") of " + text, x.rests(0, 1, found), 10 * a + b);
                    found++;
                }
            }
        }
        Check.due("P30 how many of " + text, x.rests(0, 1, NONE), found);
        Check.due("P30 no more of " + text, x.rests(0, 1, found), NONE);
    }

    private static void restsOfAll() {
        // Whatever they choose, a third keeps both, and both keep him: to offend costs 2.
        GrudgeTown x = Check.town("sf0;p;p;p;go2a0;go2a1;go0a2");
        int[] want = {0, 2, 20, 22};
        Check.due("P30 how many", x.rests(0, 1, NONE), want.length);
        for (int i = 0; i < want.length; i++) {
            Check.due("P30 rests(0, 1, " + i + ")", x.rests(0, 1, i), want[i]);
        }
        Check.due("P30 no fifth", x.rests(0, 1, 4), NONE);
    }

    /** The first has more by forgiving: the second's offence weighs more then, and he who hates the first stays. */
    private static void restsByForgiving() {
        GrudgeTown x = Check.town("p;p;go1a0k1;go0a1w2");
        Check.law(x, "y:m=0?30;y:10");
        int[][] first = {{2, 10, 0}, {0, 8, -2}, {1, 20, 0}};
        int[][] second = {{1, 7, 1}, {1, 7, 1}, {0, 18, 0}};
        for (int i = 0; i < 3; i++) {
            for (int j = 0; j < 3; j++) {
                Check.due("P29 game(0, 1, " + i + ", " + j + ", 0)", x.game(0, 1, i, j, 0), first[i][j]);
                Check.due("P29 game(0, 1, " + i + ", " + j + ", 1)", x.game(0, 1, i, j, 1), second[i][j]);
            }
        }
        // Without 2 to choose, the first would rest at 0 and the second at 1.
        Check.due("P30 how many", x.rests(0, 1, NONE), 1);
        Check.due("P30 the first", x.rests(0, 1, 0), 21);
        Check.due("P30 no second", x.rests(0, 1, 1), NONE);
    }
}
