import java.util.ArrayList;
import java.util.List;
import java.util.NoSuchElementException;
import java.util.function.ToLongFunction;

/**
 * What is refused answers as told and changes nothing but STATUS: of two objects with the same past one is asked what
 * it must refuse, the other is not, and then both are laid side by side, with what undoing and an image bring back.
 */
public final class RefusedTest {
    private static final int NONE = GrudgeTown.NONE;
    private static final int HIDDEN = GrudgeTown.HIDDEN;
    private static final int NO_STATUS = -1;

    /** A call that is refused: what it answers and which status counts it. */
    private record Refused(String call, ToLongFunction<GrudgeTown> ask, long answer, int status) {
    }

    private static final List<Refused> ALL = new ArrayList<>();

    public static void main(String[] args) {
        texts();
        acts();
        whatIsTold();
        apart();
        for (Refused refused : ALL) {
            besides(refused);
        }
        fullObject();
        noTown();
        Check.finish();
    }

    private static void refused(String call, ToLongFunction<GrudgeTown> ask, long answer) {
        ALL.add(new Refused(call, ask, answer, NO_STATUS));
    }

    private static void refused(String call, ToLongFunction<GrudgeTown> ask, long answer, int status) {
        ALL.add(new Refused(call, ask, answer, status));
    }

    /** A town of three on day 5, the third in the hut, acts, an image, something seen, a law, a tape, 1 coin. */
    private static GrudgeTown past() {
        GrudgeTown x = Check.town("sf1k2;pt1l2;pt3l4;p;gw20;go1a0w20k2;ga2w2;go2a0w9k1");
        Check.law(x, "y:n+m+7");
        x.mercy(4);
        x.seen(1, 3, true);
        x.days(2);
        x.image();
        x.days(3);
        x.becomes(0, 2);
        x.offends(0, 1);
        x.offends(1, 0);
        x.forgives(2);
        x.becomes(0, 0);
        Check.feed(x, "p;p;");
        return x;
    }

    private static void texts() {
        refused("P3 end(5)", x -> x.end(5) ? 1 : 0, 0);
        refused("P3 end(-1)", x -> x.end(-1) ? 1 : 0, 0);
        refused("P4 fault(2)", x -> x.fault(2), -2);
        refused("P4 fault(-1)", x -> x.fault(-1), -2);
        refused("P5 text(0) with a fault", x -> x.text(0), NONE);
        refused("P5 text(1) with a fault", x -> x.text(1), NONE);
        refused("P5 text(2)", x -> x.text(2), NONE);
        refused("P5 text(-1)", x -> x.text(-1), NONE);
        refused("P9 law(1)", x -> x.law(1) ? 1 : 0, 0);
        refused("P9 law(-2)", x -> x.law(-2) ? 1 : 0, 0);
        refused("P15 mercy(4), it is so", x -> x.mercy(4) ? 1 : 0, 0);
        refused("P15 mercy(10)", x -> x.mercy(10) ? 1 : 0, 0);
        refused("P15 mercy(-1)", x -> x.mercy(-1) ? 1 : 0, 0);
    }

    private static void acts() {
        refused("P10 days(0)", x -> x.days(0), NONE, 1);
        refused("P10 days(61)", x -> x.days(61), NONE, 1);
        refused("P11 offends(3, 0)", x -> x.offends(3, 0), NONE, 0);
        refused("P11 offends(0, -1)", x -> x.offends(0, -1), NONE, 0);
        refused("P11 offends(0, 0)", x -> x.offends(0, 0), NONE, 1);
        refused("P11 offends(0, 2), he is in the hut", x -> x.offends(0, 2), NONE, 2);
        refused("P12 forgives(2), none there", x -> x.forgives(2), NONE, 0);
        refused("P12 forgives(12)", x -> x.forgives(12), NONE, 0);
        refused("P12 forgives(-1)", x -> x.forgives(-1), NONE, 0);
        refused("P12 forgives(3), of one in the hut", x -> x.forgives(3), NONE, 2);
        refused("P13 becomes(2, 1), none there", x -> x.becomes(2, 1), NONE, 0);
        refused("P13 becomes(0, 3)", x -> x.becomes(0, 3), NONE, 1);
        refused("P13 becomes(0, -1)", x -> x.becomes(0, -1), NONE, 1);
        refused("P13 becomes(1, 2), it is so", x -> x.becomes(1, 2), NONE, 2);
        refused("P13 becomes(1, 1), 1 coin", x -> x.becomes(1, 1), NONE, 3);
        refused("P14 give(0)", x -> x.give(0), NONE, 1);
        refused("P14 give(51)", x -> x.give(51), NONE, 1);
        refused("P16 years(0, 1)", x -> x.years(0, 1), NONE);
        refused("P16 years(61, 1)", x -> x.years(61, 1), NONE);
    }

    private static void whatIsTold() {
        refused("P6 rule(2)", x -> x.rule(2), NONE);
        refused("P7 person(3, 0)", x -> throwsNoSuch(x, 3, 0), 1);
        refused("P7 person(0, 6)", x -> throwsNoSuch(x, 0, 6), 1);
        refused("P8 grudge(2, 0), none there", x -> x.grudge(2, 0), NONE);
        refused("P8 grudge(0, 4)", x -> x.grudge(0, 4), NONE);
        refused("P17 status(5)", x -> x.status(5), NONE);
        refused("P19 log(5, 0)", x -> x.log(5, 0), NONE);
        refused("P19 log(0, 3)", x -> x.log(0, 3), NONE);
        refused("P36 count(11)", x -> x.count(11), HIDDEN);
    }

    private static long throwsNoSuch(GrudgeTown x, int person, int what) {
        try {
            x.person(person, what);
            return 0;
        } catch (NoSuchElementException e) {
            return 1;
        }
    }

    private static void apart() {
        refused("P20 weighs(1, 1)", x -> x.weighs(1, 1), NONE);
        refused("P21 stays(3)", x -> x.stays(3), NONE);
        refused("P23 fewest(0, 1, 0)", x -> x.fewest(0, 1, 0), NONE);
        refused("P23 fewest(8, 1, 0)", x -> x.fewest(8, 1, 0), NONE);
        refused("P23 fewest(1, 31, 0)", x -> x.fewest(1, 31, 0), NONE);
        refused("P23 fewest(7, 30, 0), by none", x -> x.fewest(7, 30, 0), NONE);
        refused("P23 fewest(1, 1, 2)", x -> x.fewest(1, 1, 2), NONE);
        refused("P24 rid(2), in the hut", x -> x.rid(2), NONE);
        refused("P25 treaty(0, 0)", x -> x.treaty(0, 0), NONE);
        refused("P26 seen(3, 1)", x -> x.seen(3, 1, true), NONE);
        refused("P26 seen(0, 31)", x -> x.seen(0, 31, true), NONE);
        refused("P26 seen(0, 0)", x -> x.seen(0, 0, false), NONE);
        refused("P27 weights(4, -1)", x -> x.weights(4, NONE), NONE);
        refused("P27 weights(0, 30)", x -> x.weights(0, 30), NONE);
        refused("P28 whom(4, 1)", x -> x.whom(4, 1), NONE);
        refused("P28 whom(0, 31)", x -> x.whom(0, 31), NONE);
        refused("P29 game(0, 2, ..), in the hut", x -> x.game(0, 2, 1, 2, 0), HIDDEN);
        refused("P29 game(0, 1, 3, ..)", x -> x.game(0, 1, 3, 0, 0), HIDDEN);
        refused("P30 rests(0, 2, -1), in the hut", x -> x.rests(0, 2, NONE), NONE);
        refused("P30 rests(0, 1, 9)", x -> x.rests(0, 1, 9), NONE);
        refused("P31 odds(0, 9, 1)", x -> x.odds(0, 9, 1), NONE);
        refused("P31 odds(0, 1, 101)", x -> x.odds(0, 1, 101), NONE);
        refused("P32 shares(0, 1000)", x -> x.shares(0, 1000), NONE);
        refused("P33 most(12)", x -> x.most(12), NONE);
    }

    private static void besides(Refused refused) {
        GrudgeTown asked = past();
        GrudgeTown other = past();
        Check.due(refused.call, refused.ask.applyAsLong(asked), refused.answer);
        for (int what = 0; what < 5; what++) {
            Check.due(refused.call + ": status(" + what + ")", asked.status(what),
                    other.status(what) + (what == refused.status ? 1 : 0));
        }
        sideBySide(refused.call, asked, other);
    }

    /** As it is, behind an act undone, by the image, by what may be done then. */
    private static void sideBySide(String call, GrudgeTown asked, GrudgeTown other) {
        Watch.same(call + ": as it is", Watch.of(asked), Watch.of(other));
        Check.due(call + ": undo()", asked.undo(), other.undo());
        Watch.same(call + ": undone", Watch.of(asked), Watch.of(other));
        Check.due(call + ": back()", asked.back(), other.back());
        Check.due(call + ": years(9, 8)", asked.years(9, 8), other.years(9, 8));
        Watch.same(call + ": by the image", Watch.of(asked), Watch.of(other));
    }

    /** What is refused because something is full or at its last. */
    private static void fullObject() {
        GrudgeTown x = Check.town("sf0k99;p;p;p;g;go1a0;g;g;g;g;g;g;g;g");
        for (int i = 0; i < 3; i++) {
            Check.law(x, "y:" + (i + 3));
        }
        Check.law(x, "y:9");
        x.offends(0, 1);
        x.offends(0, 1);
        for (int i = 0; i < 10; i++) {
            x.seen(0, i + 1, true);
        }
        for (int i = 0; i < 16; i++) {
            x.days(60);
        }
        x.days(39);
        Check.feed(x, " ".repeat(237) + "y:1");
        long[] ahead = Watch.of(x);
        Check.due("P2 a full tape", x.feed(0, 0, 0, 0, 1), NONE);
        Check.due("P5 four laws", x.text(1), NONE);
        Check.due("P10 the last day", x.days(1), NONE);
        Check.due("P11 no place", x.offends(0, 1), NONE);
        Check.due("P14 999 coins", x.give(1), NONE);
        Check.due("P16 the last day", x.years(1, 1), NONE);
        Check.due("P26 ten are seen", x.seen(0, 1, true), NONE);
        Check.due("P35 no image", x.back(), NONE);
        Watch.same("full", Watch.of(x), ahead);
        int[] status = {0, 1, 0, 1, 1};
        for (int what = 0; what < 5; what++) {
            Check.due("P17 full: status(" + what + ")", x.status(what), status[what]);
        }
    }

    /** Without a town nearly all is refused, and a town told behind it is as if nothing had been asked. */
    private static void noTown() {
        GrudgeTown x = new GrudgeTown();
        for (Refused refused : ALL) {
            refused.ask.applyAsLong(x);
        }
        x.days(1);
        x.offends(0, 1);
        x.give(1);
        x.years(1, 1);
        x.image();
        x.back();
        x.undo();
        x.seen(0, 1, true);
        x.mercy(2);
        Check.due("P36 nothing can be undone", x.count(10), 0);
        Check.due("P36 nothing is seen", x.count(8), 0);
        Check.due("P36 no day", x.count(5), 0);
        Check.feed(x, "p;p;g");
        Check.due("P5 a town", x.text(0), 2);
        GrudgeTown fresh = Check.town("p;p;g");
        Watch.same("P1 no town", Watch.of(x), Watch.of(fresh));
        Check.due("P35 no image", x.back(), NONE);
        Check.due("P18 no act", x.undo(), NONE);
    }
}
