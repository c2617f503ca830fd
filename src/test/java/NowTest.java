/** Promises 6 to 9, 17, 19 and 36: what is so now. */
public final class NowTest {
    public static void main(String[] args) {
        rules();
        persons();
        grudges();
        laws();
        worths();
        logs();
        counts();
        Check.finish();
    }

    private static void rules() {
        GrudgeTown x = Check.town("sf0k0;p;p");
        Check.due("P6 rule(0)", x.rule(0), 0);
        Check.due("P6 rule(1)", x.rule(1), 0);
        x.give(50);
        Check.due("P6 coins now", x.rule(1), 50);
        x.days(2);
        Check.due("P6 coins by days", x.rule(1), 52);
        Check.due("P6 rule(2)", x.rule(2), -1);
        Check.due("P6 rule(-1)", x.rule(-1), -1);
        GrudgeTown y = Check.town("p;s;p");
        Check.due("P6 fading without", y.rule(0), 1);
        Check.due("P6 coins without", y.rule(1), 20);
    }

    private static void persons() {
        GrudgeTown x = Check.town("sf2;pt9l8;p;pt0;go0a1w5;go2a1w2;go1a0w7k1");
        int[][] want = {{9, 8, 1, 4, 1, 7}, {4, 3, 1, 3, 4, 7}, {0, 3, 1, 0, 2, 0}};
        for (int i = 0; i < 3; i++) {
            for (int what = 0; what < 6; what++) {
                Check.due("P7 person(" + i + ", " + what + ")", x.person(i, what), want[i][what]);
            }
        }
        x.days(1);
        Check.due("P7 the third is not in town", x.person(2, 2), 0);
        Check.due("P7 against the second", x.person(1, 3), 1);
        Check.due("P7 burden of the second", x.person(1, 5), 3);
        Check.dueThrows("P7 person(3, 0)", x, 3, 0);
        Check.dueThrows("P7 person(-1, 0)", x, -1, 0);
        Check.dueThrows("P7 person(0, 6)", x, 0, 6);
        Check.dueThrows("P7 person(0, -1)", x, 0, -1);
        // A heavy grudge of one in the hut counts with AGAINST, not with BURDEN.
        GrudgeTown y = Check.town("p;p;p;go0a1w9;go2a1w9");
        y.days(1);
        Check.due("P7 only the second is in town", y.most(5), 2);
        Check.due("P7 against", y.person(1, 3), 3);
        Check.due("P7 of", y.person(2, 4), 2);
        Check.due("P7 burden", y.person(1, 5), 0);
    }

    private static void grudges() {
        GrudgeTown x = Check.town("p;p;p;go2a1w30k2;g");
        int[] want = {2, 1, 30, 2};
        for (int what = 0; what < 4; what++) {
            Check.due("P8 grudge(0, " + what + ")", x.grudge(0, what), want[what]);
        }
        Check.due("P8 grudge(0, 4)", x.grudge(0, 4), -1);
        Check.due("P8 grudge(0, -1)", x.grudge(0, -1), -1);
        Check.due("P8 none there", x.grudge(2, 0), -1);
        Check.due("P8 grudge(12, 0)", x.grudge(12, 0), -1);
        Check.due("P8 grudge(-1, 0)", x.grudge(-1, 0), -1);
        x.forgives(1);
        Check.due("P8 nothing heavy is none", x.grudge(1, 2), -1);
    }

    private static void laws() {
        GrudgeTown x = Check.town("p;p");
        Check.due("P9 none holds", x.law(-1), true);
        Check.due("P9 law(0)", x.law(0), false);
        Check.law(x, "y:9");
        Check.law(x, "y:8");
        Check.due("P9 weighs", x.weighs(0, 1), 8);
        Check.due("P9 law(0)", x.law(0), true);
        Check.due("P9 weighs", x.weighs(0, 1), 9);
        Check.due("P9 law(2)", x.law(2), false);
        Check.due("P9 law(-2)", x.law(-2), false);
        Check.due("P9 the first holds still", x.count(4), 0);
        Check.due("P9 it is so", x.law(0), true);
        Check.due("P9 none", x.law(-1), true);
        Check.due("P9 weighs", x.weighs(0, 1), 6);
    }

    private static void worths() {
        worth("y:0", 1);
        worth("y:31", 30);
        worth("y:0-9", 1);
        worth("y:1+2*3", 7);
        worth("y:[1+2]*3", 9);
        worth("y:20-3-4", 13);
        worth("y:20-[3-4]", 21);
        worth("y:99/10/3", 3);
        worth("y:2*9/4*3", 12);
        worth("y:10+[0-7]/2", 7);
        worth("y:10+7/[0-2]", 7);
        worth("y:5+9/0", 5);
        worth("y:5+9/[t-t]", 5);
        worth("y:9999*9999/[9999*5]", 20);
        worth("y:9999*9999*9999/[9999*5]", 20);
        worth("y:9999*9999-9999*100=100?7;y:8", 7);
        worth("y:9999*9999+9999-9999*100=100?7;y:8", 7);
        worth("y:0-9999*9999-9999+9999*100=0-100?7;y:8", 7);
        worth("y:[0-9999*9999]+[0-9999]+9999*100=0-100?7;y:8", 7);
        worth("y:[0-9999]*9999+9999*100=0-100?7;y:8", 7);
        worth("y:1=2?3", 1);
        worth("y:1=2?3;y:4", 4);
        worth("y:1=1?3;y:4", 3);
        worth("y:4;y:1=1?3", 4);
        worth("y:1<2?3;y:4", 3);
        worth("y:2<2?3;y:4", 4);
        worth("y:2>1?3;y:4", 3);
        worth("y:2>2?3;y:4", 4);
        worth("y:!1=1?3;y:4", 4);
        worth("y:!!1=1?3;y:4", 3);
        worth("y:1=2|1=1&1=2?3;y:4", 4);
        worth("y:1=1|1=1&1=2?3;y:4", 3);
        worth("y:(1=1|1=1)&1=2?3;y:4", 4);
        worth("y:!1=2&1=2?3;y:4", 4);
        worth("y:!(1=2&1=2)?3;y:4", 3);
        worth("y:!1=1|1=1?3;y:4", 3);
        worth("y:!(1=1|1=1)?3;y:4", 4);
        worth("y:1=2?3;y:2=3?4;y:1+1=2?5;y:6", 5);
        // The letters, in a town where each tells something else.
        GrudgeTown x = Check.town("sf0;pt1l9;pt8l2;pt3l5;go1a0w3;go1a0w3;go1a2w3;go2a0w3;go0a1w3");
        x.days(7);
        String[] texts = {"y:t", "y:l", "y:n", "y:m", "y:s+4", "y:d"};
        int[] want = {8, 9, 3, 3};
        for (int i = 0; i < 4; i++) {
            Check.law(x, texts[i]);
            Check.due("P20 weighs(0, 1) by " + texts[i], x.weighs(0, 1), want[i]);
        }
        GrudgeTown z = Check.town("sf0;p;p;p;go1a2w9;go2a1w9");
        z.days(17);
        Check.law(z, texts[4]);
        Check.due("P20 s of one in town", z.weighs(1, 0), 5);
        Check.due("P20 s of one in the hut", z.weighs(0, 1), 4);
        Check.law(z, texts[5]);
        Check.due("P20 d", z.weighs(0, 1), 17);
    }

    private static void worth(String law, int want) {
        GrudgeTown x = Check.town("p;p");
        Check.law(x, law);
        Check.due("P20 weighs by " + law, x.weighs(0, 1), want);
    }

    private static void logs() {
        GrudgeTown x = Check.town("p;p;p;go0a1w2;go1a0w3;go0a2w1");
        Check.due("P19 no row", x.log(0, 0), -1);
        x.days(3);
        // Behind the first sunset the third one goes, behind the second the second, then the first.
        int[][] want = {{1, 0, 0}, {2, 1, 1}, {4, 2, 3}};
        for (int i = 0; i < 3; i++) {
            for (int what = 0; what < 3; what++) {
                Check.due("P19 log(" + i + ", " + what + ")", x.log(i, what), want[i][what]);
            }
        }
        Check.due("P19 log(3, 0)", x.log(3, 0), -1);
        Check.due("P19 log(-1, 0)", x.log(-1, 0), -1);
        Check.due("P19 log(0, 3)", x.log(0, 3), -1);
        Check.due("P19 log(0, -1)", x.log(0, -1), -1);
        x.days(57);
        Check.due("P19 the oldest of 60", x.log(59, 0), 4);
        Check.due("P19 length", x.count(9), 60);
        x.days(1);
        Check.due("P19 the oldest of 61 is not kept", x.log(59, 0), 2);
        Check.due("P19 log(60, 0)", x.log(60, 0), -1);
        Check.due("P36 length", x.count(9), 60);
        x.days(39);
        for (int i = 0; i < 40; i++) {
            x.undo();
        }
        Check.due("P18 as it was 40 days ahead", x.log(59, 0), 4);
        Check.due("P18 as it was 40 days ahead", x.log(59, 2), 3);
    }

    private static void counts() {
        GrudgeTown x = Check.town("p;p;p;go0a1w2;go1a0w3");
        Check.law(x, "y:5");
        Check.feed(x, "abc");
        x.mercy(9);
        x.seen(1, 1, true);
        x.days(2);
        int[] want = {3, 2, 1, 3, 0, 2, 1, 9, 1, 2, 2};
        for (int what = 0; what <= 10; what++) {
            Check.due("P36 count(" + what + ")", x.count(what), want[what]);
        }
        Check.due("P36 count(11)", x.count(11), GrudgeTown.HIDDEN);
        Check.due("P36 count(-1)", x.count(-1), GrudgeTown.HIDDEN);
        Check.due("P17 status(5)", x.status(5), -1);
        Check.due("P17 status(-1)", x.status(-1), -1);
    }
}
