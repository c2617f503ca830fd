/** Promises 26 to 28: what was seen, how heavy a told grudge may have been, whom to look for. */
public final class SeenTest {
    public static void main(String[] args) {
        seen();
        weights();
        willed();
        whom();
        Check.finish();
    }

    private static void seen() {
        GrudgeTown x = new GrudgeTown();
        Check.due("P26 no town", x.seen(0, 1, true), -1);
        Check.feed(x, "p;p;g");
        x.text(0);
        Check.due("P26 no such one", x.seen(2, 1, true), -1);
        Check.due("P26 no such one", x.seen(-1, 1, true), -1);
        Check.due("P26 n 0", x.seen(0, 0, true), -1);
        Check.due("P26 n 31", x.seen(0, 31, true), -1);
        for (int i = 1; i <= 10; i++) {
            Check.due("P26 seen", x.seen(i % 2, 3 * i, false), i);
        }
        Check.due("P26 there are ten", x.seen(0, 1, false), -1);
        Check.due("P26 count", x.count(8), 10);
        // Behind 3 sunsets and more nobody was in town, whatever it was.
        Check.due("P27 of ten", x.weights(0, -1), 30);
        Check.due("P18 no act", x.count(10), 0);
    }

    private static void weights() {
        GrudgeTown x = Check.town("sf2;p;p;gw5;go1a0w9k1");
        Check.due("P27 all", x.weights(0, -1), 30);
        Check.due("P27 the first", x.weights(0, 0), 1);
        Check.due("P27 the last", x.weights(0, 29), 30);
        Check.due("P27 no 31st", x.weights(0, 30), -1);
        Check.due("P27 no such one", x.weights(0, -2), -1);
        // The second was in town behind 4 sunsets: 9 at least; not behind 6: 12 at most.
        x.seen(1, 4, true);
        x.seen(1, 6, false);
        Check.due("P27 how many", x.weights(0, -1), 4);
        for (int i = 0; i < 4; i++) {
            Check.due("P27 the " + i + "th", x.weights(0, i), 9 + i);
        }
        Check.due("P27 no more", x.weights(0, 4), -1);
        // All else as told: whatever the second grudge was, the first of 5 is faded by then.
        Check.due("P27 nothing fits", x.weights(1, -1), 0);
        Check.due("P27 nothing fits", x.weights(1, 0), -1);
        Check.due("P27 no such told one", x.weights(2, -1), -1);
        Check.due("P27 no such told one", x.weights(-1, -1), -1);
        // As told, not as now: acts do not matter.
        x.offends(0, 1);
        x.forgives(0);
        x.days(3);
        Check.due("P27 as told", x.weights(0, 0), 9);
        Check.due("P27 only told ones", x.weights(2, -1), -1);
        x.seen(0, 4, true);
        x.seen(0, 7, true);
        // The first is kept as long as the second is in town, and one sunset longer.
        Check.due("P27 of both", x.weights(0, -1), 0);
        GrudgeTown last = Check.town("p;p;gw30k1;go1a0w30k1");
        last.seen(0, 30, true);
        Check.due("P27 seen behind 30", last.weights(0, -1), 30);
        last.seen(1, 30, false);
        Check.due("P27 seen behind 30", last.weights(0, -1), 0);
        GrudgeTown none = new GrudgeTown();
        Check.due("P27 no town", none.weights(0, -1), -1);
        Check.due("P28 no town", none.whom(0, 1), -1);
    }

    private static void willed() {
        // Willed by the first at the first sunset to the third, who is kept by the second.
        GrudgeTown x = Check.town("p;p;p;ga1w5k2;go1a2w30");
        x.seen(1, 7, true);
        x.seen(0, 1, false);
        x.seen(2, 30, false);
        Check.due("P27 willed", x.weights(0, 0), 8);
        Check.due("P27 willed", x.weights(0, -1), 23);
    }

    private static void whom() {
        // Behind 4 sunsets the fifth is in town by 5 .. 30, all others always: none of five is left out.
        GrudgeTown five = Check.town("p;p;p;p;p;go0a4w9;go0a1k1;go1a0k1;go0a2k1;go0a3k1");
        Check.due("P28 the fifth of five", five.whom(0, 4), 4);
        GrudgeTown x = Check.town("p;p;p;p;gw9;go1a0w30;go1a2w5;go1a3w20");
        // Behind 15 sunsets the second is in town by 16 .. 30 of 1 .. 30: 15 and 15.
        Check.due("P28 half and half", x.whom(0, 15), 1);
        // Behind 10 the first by 10 .. 30, the second by 11 .. 30 (20, 10), the fourth as the first, the third never.
        Check.due("P28 nearest", x.whom(0, 10), 1);
        // Behind 1 the second by 2 .. 30, the others always.
        Check.due("P28 n 1", x.whom(0, 1), 1);
        Check.due("P28 n 30", x.whom(0, 30), 0);
        // Of the third's own nothing else hangs on it.
        Check.due("P28 of the third", x.whom(2, 5), 2);
        Check.due("P28 n 0", x.whom(0, 0), -1);
        Check.due("P28 n 31", x.whom(0, 31), -1);
        Check.due("P28 no such told one", x.whom(4, 1), -1);
        Check.due("P28 no such told one", x.whom(-1, 1), -1);
        // Among those that fit alone, 20 .. 30: behind 24 the second by 25 .. 30 (6, 5), the first by one more (7, 4);
        // behind 25 the second by 26 .. 30 (5, 6), the first by one more (6, 5).
        x.seen(1, 19, true);
        Check.due("P27 fit", x.weights(0, -1), 11);
        Check.due("P28 among these", x.whom(0, 24), 1);
        Check.due("P28 among these", x.whom(0, 25), 0);
        Check.due("P28 all the same, the lowest", x.whom(0, 5), 0);
        x.seen(1, 18, false);
        Check.due("P28 nothing fits", x.whom(0, 5), -1);
    }
}
