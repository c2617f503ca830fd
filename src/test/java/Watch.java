import java.util.ArrayList;
import java.util.List;

/** All that the face tells of an object but status, in one row, so that two moments can be laid side by side. */
final class Watch {
    private Watch() {
    }

    static long[] of(GrudgeTown x) {
        List<Long> told = new ArrayList<>();
        for (int what = 0; what <= 10; what++) {
            told.add((long) x.count(what));
        }
        told.add((long) x.fault(0));
        told.add((long) x.fault(1));
        told.add((long) x.rule(0));
        told.add((long) x.rule(1));
        for (int i = 0; i < x.count(0); i++) {
            for (int what = 0; what < 6; what++) {
                told.add((long) x.person(i, what));
            }
            told.add((long) x.stays(i));
        }
        for (int i = 0; i < 12; i++) {
            for (int what = 0; what < 4; what++) {
                told.add((long) x.grudge(i, what));
            }
        }
        for (int i = 0; i < x.count(9); i++) {
            for (int what = 0; what < 3; what++) {
                told.add((long) x.log(i, what));
            }
        }
        for (int i = 0; i < x.count(1); i++) {
            told.add((long) x.weights(i, -1));
        }
        told.add((long) x.weighs(0, 1));
        told.add((long) x.empty());
        told.add((long) x.most(5));
        long[] row = new long[told.size()];
        for (int i = 0; i < row.length; i++) {
            row[i] = told.get(i);
        }
        return row;
    }

    static void same(String call, long[] got, long[] want) {
        Check.due(call + ": how much is told", got.length, want.length);
        for (int i = 0; i < Math.min(got.length, want.length); i++) {
            Check.due(call + ": what is told at " + i, got[i], want[i]);
        }
    }
}
