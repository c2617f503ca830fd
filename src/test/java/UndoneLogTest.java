/**
 * Promises 18, 19, 34 and 35: behind many days the log comes back whole, row by row, also those rows that were
 * already too old to be told; an object that went on and came back is laid beside one that never went on.
 */
public final class UndoneLogTest {
    // Two can never go; the others come and go by the draws, so that the rows are not alike.
    private static final String LIVELY = "sf3;pt9;pt9;pt1;pt2;pt3;gk1;go1a0k1";
    private static final int[] SEEDS = {1, -77, 4711};
    private static final int DAYS = 140;

    private UndoneLogTest() {
    }

    public static void main(String[] args) {
        rowsDiffer();
        for (int back : new int[] {1, 2, 19, 20, 21, 39, 40}) {
            undoesYears(back);
        }
        undoesAndGoesOn();
        undoesPlainDays();
        imageKeepsAll();
        imageKeepsWhoWent();
        Check.finish();
    }

    /** The town by its years up to a day; the same draws up to each day. */
    private static GrudgeTown at(int day) {
        GrudgeTown x = Check.town(LIVELY);
        x.mercy(0);
        for (int i = 0; i < SEEDS.length; i++) {
            int days = Math.min(60, day - 60 * i);
            if (days > 0) {
                x.years(days, SEEDS[i]);
            }
        }
        return x;
    }

    private static void sameLog(String call, GrudgeTown got, GrudgeTown want) {
        Check.due(call + ": the day", got.count(5), want.count(5));
        Check.due(call + ": how long", got.count(9), want.count(9));
        for (int i = 0; i <= 60; i++) {
            for (int what = 0; what < 3; what++) {
                Check.due(call + ": log(" + i + ", " + what + ")", got.log(i, what), want.log(i, what));
            }
        }
    }

    /** Were the rows alike, the others of this test would tell nothing. */
    private static void rowsDiffer() {
        GrudgeTown x = at(DAYS);
        int changes = 0;
        for (int i = 0; i < 59; i++) {
            for (int what = 0; what < 3; what++) {
                changes += x.log(i, what) == x.log(i + 1, what) ? 0 : 1;
            }
        }
        Check.due("rows differ from the next ones", changes > 60, true);
    }

    private static void undoesYears(int back) {
        GrudgeTown x = at(DAYS);
        for (int i = 1; i <= back; i++) {
            Check.due("P18 undo " + i, x.undo(), 40 - i);
        }
        sameLog("P18 P19 " + back + " days undone", x, at(DAYS - back));
    }

    /** Undone and gone on by the same draws it is as if nothing had been undone. */
    private static void undoesAndGoesOn() {
        GrudgeTown x = at(120);
        for (int i = 0; i < 40; i++) {
            x.undo();
        }
        Check.due("P18 none is left", x.undo(), GrudgeTown.NONE);
        Check.due("P10 other days now", x.days(40), 120);
        for (int i = 0; i < 40; i++) {
            x.undo();
        }
        sameLog("P18 P19 undone, gone on and undone", x, at(80));
    }

    /** The heavy grudges of the first days are each one fewer; all later rows are alike. */
    private static void undoesPlainDays() {
        GrudgeTown x = Check.town("p;p;gk1;go1a0k1;gw1;gw2;gw3;gw4;gw5;gw6;gw7;gw8");
        x.days(60);
        x.days(40);
        for (int day = 100; day >= 60; day--) {
            for (int i = 50; i < 60; i++) {
                int sunset = day - i;
                Check.due("P19 on day " + day + " log(" + i + ", 1)", x.log(i, 1), 2 + Math.max(0, 8 - sunset));
            }
            x.undo();
        }
    }

    private static void imageKeepsAll() {
        GrudgeTown x = at(120);
        Check.due("P34 the day", x.image(), 120);
        x.days(60);
        x.days(60);
        Check.due("P35 the day", x.back(), 120);
        Check.due("P35 nothing can be undone", x.undo(), GrudgeTown.NONE);
        sameLog("P35 P19 back", x, at(120));
        GrudgeTown y = at(130);
        for (int i = 0; i < 30; i++) {
            y.undo();
        }
        Check.due("P34 the day of one undone", y.image(), 100);
        y.days(60);
        y.back();
        sameLog("P35 P19 back to one undone", y, at(100));
    }

    /** One comes back each day and goes at its sunset, so that every row of the image says who went. */
    private static void imageKeepsWhoWent() {
        GrudgeTown x = Check.town("sf9k99;pt0;p;p;gk1;go1a0k1");
        x.days(60);
        for (int day = 60; day < 120; day++) {
            x.offends(2, 0);
            x.days(1);
        }
        x.image();
        x.days(60);
        x.days(60);
        Check.due("P19 nobody went of late", x.log(59, 0), 0);
        x.back();
        for (int i = 0; i < 60; i++) {
            Check.due("P35 P19 log(" + i + ", 0)", x.log(i, 0), 4);
            Check.due("P35 P19 log(" + i + ", 1)", x.log(i, 1), 2);
            Check.due("P35 P19 log(" + i + ", 2)", x.log(i, 2), 3);
        }
    }
}
